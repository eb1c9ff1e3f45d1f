/-! StaticKernel.activate(I)I -/
set_option maxRecDepth 100000 in
theorem ck_204 : chkM (mt 204) cd_204 = true := by decide +kernel
section
variable {post : Option AV → AMem → Prop} {loc : Lc} {stk : List AV} {M : AMem}
theorem b_204_0 (h : wpl (Wq 204 cd_204 post) post [.aload 0, .getfield 4915627, .iconst 1, .aload 0, .iload 1, .invokevirtual 52513, .invokevirtual 53302, .ret 0] 0 loc stk M) : Wq 204 cd_204 post 0 loc stk M := prefB_run ck_204 _ 0 (by decide +kernel) h
end
/-! StaticKernel.tryActivate(I)I -/
set_option maxRecDepth 100000 in
theorem ck_205 : chkM (mt 205) cd_205 = true := by decide +kernel
section
variable {post : Option AV → AMem → Prop} {loc : Lc} {stk : List AV} {M : AMem}
theorem b_205_0 (h : wpl (Wq 205 cd_205 post) post [.aload 0, .getfield 4915627, .invokevirtual 52758, .istore 2, .iload 2, .ifCond .eq 8, .iload 2, .ret 0] 0 loc stk M) : Wq 205 cd_205 post 0 loc stk M := prefB_run ck_205 _ 0 (by decide +kernel) h
theorem b_205_8 (h : wpl (Wq 205 cd_205 post) post [.aload 0, .getfield 4096423, .iconst 4, .iload 1, .invokevirtual 43573, .ifCond .eq 19, .aload 0, .getfield 4915627, .iload 1, .invokevirtual 49446, .goto 20] 8 loc stk M) : Wq 205 cd_205 post 8 loc stk M := prefB_run ck_205 _ 8 (by decide +kernel) h
theorem b_205_19 (h : wpl (Wq 205 cd_205 post) post [.iconst 3, .ret 0] 19 loc stk M) : Wq 205 cd_205 post 19 loc stk M := prefB_run ck_205 _ 19 (by decide +kernel) h
theorem b_205_20 (h : wpl (Wq 205 cd_205 post) post [.ret 0] 20 loc stk M) : Wq 205 cd_205 post 20 loc stk M := prefB_run ck_205 _ 20 (by decide +kernel) h
end
/-! StaticKernel$Machine.entry()I -/
set_option maxRecDepth 100000 in
theorem ck_206 : chkM (mt 206) cd_206 = true := by decide +kernel
section
variable {post : Option AV → AMem → Prop} {loc : Lc} {stk : List AV} {M : AMem}
theorem b_206_0 (h : wpl (Wq 206 cd_206 post) post [.aload 0, .invokevirtual 53014, .ifCond .eq 5, .iconst 10, .ret 0] 0 loc stk M) : Wq 206 cd_206 post 0 loc stk M := prefB_run ck_206 _ 0 (by decide +kernel) h
theorem b_206_5 (h : wpl (Wq 206 cd_206 post) post [.aload 0, .getfield 2416, .ifCond .le 10, .iconst 9, .goto 11] 5 loc stk M) : Wq 206 cd_206 post 5 loc stk M := prefB_run ck_206 _ 5 (by decide +kernel) h
theorem b_206_10 (h : wpl (Wq 206 cd_206 post) post [.iconst 0, .ret 0] 10 loc stk M) : Wq 206 cd_206 post 10 loc stk M := prefB_run ck_206 _ 10 (by decide +kernel) h
theorem b_206_11 (h : wpl (Wq 206 cd_206 post) post [.ret 0] 11 loc stk M) : Wq 206 cd_206 post 11 loc stk M := prefB_run ck_206 _ 11 (by decide +kernel) h
end
/-! StaticKernel$Machine.isIdle()Z -/
set_option maxRecDepth 100000 in
theorem ck_207 : chkM (mt 207) cd_207 = true := by decide +kernel
section
variable {post : Option AV → AMem → Prop} {loc : Lc} {stk : List AV} {M : AMem}
theorem b_207_0 (h : wpl (Wq 207 cd_207 post) post [.aload 0, .getfield 2409, .ifCond .eq 10, .aload 0, .getfield 2428, .ifCond .ne 12, .aload 0, .getfield 2420, .iconst (-1), .if_icmp .ne 12, .iconst 1, .goto 13] 0 loc stk M) : Wq 207 cd_207 post 0 loc stk M := prefB_run ck_207 _ 0 (by decide +kernel) h
theorem b_207_10 (h : wpl (Wq 207 cd_207 post) post [.iconst 1, .goto 13] 10 loc stk M) : Wq 207 cd_207 post 10 loc stk M := prefB_run ck_207 _ 10 (by decide +kernel) h
theorem b_207_12 (h : wpl (Wq 207 cd_207 post) post [.iconst 0, .ret 1] 12 loc stk M) : Wq 207 cd_207 post 12 loc stk M := prefB_run ck_207 _ 12 (by decide +kernel) h
theorem b_207_13 (h : wpl (Wq 207 cd_207 post) post [.ret 1] 13 loc stk M) : Wq 207 cd_207 post 13 loc stk M := prefB_run ck_207 _ 13 (by decide +kernel) h
end
/-! StaticKernel$Machine.finish(II)I -/
set_option maxRecDepth 100000 in
theorem ck_208 : chkM (mt 208) cd_208 = true := by decide +kernel
section
variable {post : Option AV → AMem → Prop} {loc : Lc} {stk : List AV} {M : AMem}
theorem b_208_0 (h : wpl (Wq 208 cd_208 post) post [.iload 2, .ifCond .eq 14, .iload 2, .iconst 10, .if_icmp .eq 14, .aload 0, .iconst 30000, .iconst 100, .iload 1, .imul, .iadd, .iload 2, .iadd, .invokevirtual 48934, .aload 0, .invokevirtual 50966, .aload 0, .invokevirtual 29462, .iload 2, .ret 0] 0 loc stk M) : Wq 208 cd_208 post 0 loc stk M := prefB_run ck_208 _ 0 (by decide +kernel) h
theorem b_208_14 (h : wpl (Wq 208 cd_208 post) post [.aload 0, .invokevirtual 50966, .aload 0, .invokevirtual 29462, .iload 2, .ret 0] 14 loc stk M) : Wq 208 cd_208 post 14 loc stk M := prefB_run ck_208 _ 14 (by decide +kernel) h
end
/-! StaticKernel.terminate()I -/
set_option maxRecDepth 100000 in
theorem ck_209 : chkM (mt 209) cd_209 = true := by decide +kernel
section
variable {post : Option AV → AMem → Prop} {loc : Lc} {stk : List AV} {M : AMem}
theorem b_209_0 (h : wpl (Wq 209 cd_209 post) post [.aload 0, .getfield 4915627, .iconst 2, .aload 0, .invokevirtual 53777, .invokevirtual 53302, .ret 0] 0 loc stk M) : Wq 209 cd_209 post 0 loc stk M := prefB_run ck_209 _ 0 (by decide +kernel) h
end
/-! StaticKernel.tryTerminate()I -/
set_option maxRecDepth 100000 in
theorem ck_210 : chkM (mt 210) cd_210 = true := by decide +kernel
section
variable {post : Option AV → AMem → Prop} {loc : Lc} {stk : List AV} {M : AMem}
theorem b_210_0 (h : wpl (Wq 210 cd_210 post) post [.aload 0, .getfield 4915627, .invokevirtual 54038, .istore 1, .iload 1, .ifCond .ne 9, .aload 0, .getfield 4915627, .invokevirtual 54550, .iload 1, .ret 0] 0 loc stk M) : Wq 210 cd_210 post 0 loc stk M := prefB_run ck_210 _ 0 (by decide +kernel) h
theorem b_210_9 (h : wpl (Wq 210 cd_210 post) post [.iload 1, .ret 0] 9 loc stk M) : Wq 210 cd_210 post 9 loc stk M := prefB_run ck_210 _ 9 (by decide +kernel) h
end
/-! StaticKernel$Machine.freeTaskEntry()I -/
set_option maxRecDepth 100000 in
theorem ck_211 : chkM (mt 211) cd_211 = true := by decide +kernel
section
variable {post : Option AV → AMem → Prop} {loc : Lc} {stk : List AV} {M : AMem}
theorem b_211_0 (h : wpl (Wq 211 cd_211 post) post [.aload 0, .invokevirtual 54294, .istore 1, .iload 1, .ifCond .eq 7, .iload 1, .ret 0] 0 loc stk M) : Wq 211 cd_211 post 0 loc stk M := prefB_run ck_211 _ 0 (by decide +kernel) h
theorem b_211_7 (h : wpl (Wq 211 cd_211 post) post [.aload 0, .invokevirtual 51478, .getfield 3256, .ifCond .le 13, .iconst 6, .goto 14] 7 loc stk M) : Wq 211 cd_211 post 7 loc stk M := prefB_run ck_211 _ 7 (by decide +kernel) h
theorem b_211_13 (h : wpl (Wq 211 cd_211 post) post [.iconst 0, .ret 0] 13 loc stk M) : Wq 211 cd_211 post 13 loc stk M := prefB_run ck_211 _ 13 (by decide +kernel) h
theorem b_211_14 (h : wpl (Wq 211 cd_211 post) post [.ret 0] 14 loc stk M) : Wq 211 cd_211 post 14 loc stk M := prefB_run ck_211 _ 14 (by decide +kernel) h
end
/-! StaticKernel$Machine.taskEntry()I -/
set_option maxRecDepth 100000 in
theorem ck_212 : chkM (mt 212) cd_212 = true := by decide +kernel
section
variable {post : Option AV → AMem → Prop} {loc : Lc} {stk : List AV} {M : AMem}
theorem b_212_0 (h : wpl (Wq 212 cd_212 post) post [.aload 0, .invokevirtual 52758, .istore 1, .iload 1, .ifCond .eq 7, .iload 1, .ret 0] 0 loc stk M) : Wq 212 cd_212 post 0 loc stk M := prefB_run ck_212 _ 0 (by decide +kernel) h
theorem b_212_7 (h : wpl (Wq 212 cd_212 post) post [.aload 0, .getfield 2428, .ifCond .le 12, .iconst 2, .goto 13] 7 loc stk M) : Wq 212 cd_212 post 7 loc stk M := prefB_run ck_212 _ 7 (by decide +kernel) h
theorem b_212_12 (h : wpl (Wq 212 cd_212 post) post [.iconst 0, .ret 0] 12 loc stk M) : Wq 212 cd_212 post 12 loc stk M := prefB_run ck_212 _ 12 (by decide +kernel) h
theorem b_212_13 (h : wpl (Wq 212 cd_212 post) post [.ret 0] 13 loc stk M) : Wq 212 cd_212 post 13 loc stk M := prefB_run ck_212 _ 13 (by decide +kernel) h
end
/-! StaticKernel$Machine.endRequest()V -/
set_option maxRecDepth 100000 in
theorem ck_213 : chkM (mt 213) cd_213 = true := by decide +kernel
section
variable {post : Option AV → AMem → Prop} {loc : Lc} {stk : List AV} {M : AMem}
theorem b_213_0 (h : wpl (Wq 213 cd_213 post) post [.aload 0, .getfield 4098403, .getfield 81191733215, .aload 0, .getfield 2420, .aaload, .dup, .getfield 3228, .iconst 1, .isub, .putfield 3228, .aload 0, .invokevirtual 54806, .return_] 0 loc stk M) : Wq 213 cd_213 post 0 loc stk M := prefB_run ck_213 _ 0 (by decide +kernel) h
end
/-! StaticKernel$Machine.stopRunning()V -/
set_option maxRecDepth 100000 in
theorem ck_214 : chkM (mt 214) cd_214 = true := by decide +kernel
section
variable {post : Option AV → AMem → Prop} {loc : Lc} {stk : List AV} {M : AMem}
theorem b_214_0 (h : wpl (Wq 214 cd_214 post) post [.aload 0, .getfield 4098403, .getfield 81191733215, .aload 0, .getfield 2420, .aaload, .iconst 0, .putfield 3245, .aload 0, .iconst 20000, .aload 0, .getfield 2420, .iadd, .invokevirtual 48934, .aload 0, .iconst (-1), .putfield 2420, .return_] 0 loc stk M) : Wq 214 cd_214 post 0 loc stk M := prefB_run ck_214 _ 0 (by decide +kernel) h
end
/-! StaticKernel.chain(I)I -/
set_option maxRecDepth 100000 in
theorem ck_215 : chkM (mt 215) cd_215 = true := by decide +kernel
section
variable {post : Option AV → AMem → Prop} {loc : Lc} {stk : List AV} {M : AMem}
theorem b_215_0 (h : wpl (Wq 215 cd_215 post) post [.aload 0, .getfield 4915627, .iconst 3, .aload 0, .iload 1, .invokevirtual 55329, .invokevirtual 53302, .ret 0] 0 loc stk M) : Wq 215 cd_215 post 0 loc stk M := prefB_run ck_215 _ 0 (by decide +kernel) h
end
/-! StaticKernel.tryChain(I)I -/
set_option maxRecDepth 100000 in
theorem ck_216 : chkM (mt 216) cd_216 = true := by decide +kernel
section
variable {post : Option AV → AMem → Prop} {loc : Lc} {stk : List AV} {M : AMem}
theorem b_216_0 (h : wpl (Wq 216 cd_216 post) post [.aload 0, .getfield 4915627, .invokevirtual 54038, .istore 2, .iload 2, .ifCond .eq 8, .iload 2, .ret 0] 0 loc stk M) : Wq 216 cd_216 post 0 loc stk M := prefB_run ck_216 _ 0 (by decide +kernel) h
theorem b_216_8 (h : wpl (Wq 216 cd_216 post) post [.aload 0, .getfield 4096423, .iconst 4, .iload 1, .invokevirtual 43573, .ifCond .ne 16, .iconst 3, .ret 0] 8 loc stk M) : Wq 216 cd_216 post 8 loc stk M := prefB_run ck_216 _ 8 (by decide +kernel) h
theorem b_216_16 (h : wpl (Wq 216 cd_216 post) post [.iload 1, .aload 0, .getfield 4915627, .getfield 2420, .if_icmp .eq 30, .aload 0, .getfield 4096423, .getfield 81191733215, .iload 1, .aaload, .invokevirtual 49688, .ifCond .eq 30, .iconst 4, .ret 0] 16 loc stk M) : Wq 216 cd_216 post 16 loc stk M := prefB_run ck_216 _ 16 (by decide +kernel) h
theorem b_216_30 (h : wpl (Wq 216 cd_216 post) post [.aload 0, .getfield 4915627, .invokevirtual 54550, .aload 0, .getfield 4915627, .iload 1, .invokevirtual 49446, .ret 0] 30 loc stk M) : Wq 216 cd_216 post 30 loc stk M := prefB_run ck_216 _ 30 (by decide +kernel) h
end
/-! StaticKernel.schedule()I -/
set_option maxRecDepth 100000 in
theorem ck_217 : chkM (mt 217) cd_217 = true := by decide +kernel
section
variable {post : Option AV → AMem → Prop} {loc : Lc} {stk : List AV} {M : AMem}
theorem b_217_0 (h : wpl (Wq 217 cd_217 post) post [.aload 0, .getfield 4915627, .iconst 4, .aload 0, .invokevirtual 55825, .invokevirtual 53302, .ret 0] 0 loc stk M) : Wq 217 cd_217 post 0 loc stk M := prefB_run ck_217 _ 0 (by decide +kernel) h
end
/-! StaticKernel.trySchedule()I -/
set_option maxRecDepth 100000 in
theorem ck_218 : chkM (mt 218) cd_218 = true := by decide +kernel
section
variable {post : Option AV → AMem → Prop} {loc : Lc} {stk : List AV} {M : AMem}
theorem b_218_0 (h : wpl (Wq 218 cd_218 post) post [.aload 0, .getfield 4915627, .invokevirtual 54038, .istore 1, .iload 1, .ifCond .ne 9, .aload 0, .getfield 4915627, .invokevirtual 56086, .iload 1, .ret 0] 0 loc stk M) : Wq 218 cd_218 post 0 loc stk M := prefB_run ck_218 _ 0 (by decide +kernel) h
theorem b_218_9 (h : wpl (Wq 218 cd_218 post) post [.iload 1, .ret 0] 9 loc stk M) : Wq 218 cd_218 post 9 loc stk M := prefB_run ck_218 _ 9 (by decide +kernel) h
end
/-! StaticKernel$Machine.yieldToTop()V -/
set_option maxRecDepth 100000 in
theorem ck_219 : chkM (mt 219) cd_219 = true := by decide +kernel
section
variable {post : Option AV → AMem → Prop} {loc : Lc} {stk : List AV} {M : AMem}
theorem b_219_0 (h : wpl (Wq 219 cd_219 post) post [.aload 0, .getfield 4098403, .getfield 81191733215, .aload 0, .getfield 2420, .aaload, .astore 1, .aload 0, .getfield 5736807, .invokevirtual 29975, .aload 1, .getfield 3200, .if_icmp .le 18, .aload 1, .iconst 0, .putfield 3245, .aload 0, .invokevirtual 51734, .return_] 0 loc stk M) : Wq 219 cd_219 post 0 loc stk M := prefB_run ck_219 _ 0 (by decide +kernel) h
theorem b_219_18 (h : wpl (Wq 219 cd_219 post) post [.return_] 18 loc stk M) : Wq 219 cd_219 post 18 loc stk M := prefB_run ck_219 _ 18 (by decide +kernel) h
end
/-! StaticKernel.take(I)I -/
set_option maxRecDepth 100000 in
theorem ck_220 : chkM (mt 220) cd_220 = true := by decide +kernel
section
variable {post : Option AV → AMem → Prop} {loc : Lc} {stk : List AV} {M : AMem}
theorem b_220_0 (h : wpl (Wq 220 cd_220 post) post [.aload 0, .getfield 4915627, .iconst 5, .aload 0, .iload 1, .invokevirtual 56609, .invokevirtual 53302, .ret 0] 0 loc stk M) : Wq 220 cd_220 post 0 loc stk M := prefB_run ck_220 _ 0 (by decide +kernel) h
end
/-! StaticKernel.tryTake(I)I -/
set_option maxRecDepth 100000 in
theorem ck_221 : chkM (mt 221) cd_221 = true := by decide +kernel
section
variable {post : Option AV → AMem → Prop} {loc : Lc} {stk : List AV} {M : AMem}
theorem b_221_0 (h : wpl (Wq 221 cd_221 post) post [.aload 0, .getfield 4915627, .invokevirtual 52758, .istore 2, .iload 2, .ifCond .eq 8, .iload 2, .ret 0] 0 loc stk M) : Wq 221 cd_221 post 0 loc stk M := prefB_run ck_221 _ 0 (by decide +kernel) h
theorem b_221_8 (h : wpl (Wq 221 cd_221 post) post [.aload 0, .getfield 4096423, .iload 1, .invokevirtual 56869, .ifCond .ne 15, .iconst 3, .ret 0] 8 loc stk M) : Wq 221 cd_221 post 8 loc stk M := prefB_run ck_221 _ 8 (by decide +kernel) h
theorem b_221_15 (h : wpl (Wq 221 cd_221 post) post [.aload 0, .getfield 4915627, .invokevirtual 51478, .astore 3, .aload 0, .getfield 4096423, .iload 1, .invokevirtual 57125, .iconst (-1), .if_icmp .ne 33, .aload 3, .getfield 3200, .aload 0, .getfield 4096423, .getfield 53722318831, .iload 1, .iaload, .if_icmp .le 35, .iconst 1, .ret 0] 15 loc stk M) : Wq 221 cd_221 post 15 loc stk M := prefB_run ck_221 _ 15 (by decide +kernel) h
theorem b_221_33 (h : wpl (Wq 221 cd_221 post) post [.iconst 1, .ret 0] 33 loc stk M) : Wq 221 cd_221 post 33 loc stk M := prefB_run ck_221 _ 33 (by decide +kernel) h
theorem b_221_35 (h : wpl (Wq 221 cd_221 post) post [.aload 3, .iload 1, .invokevirtual 57384, .iconst 0, .ret 0] 35 loc stk M) : Wq 221 cd_221 post 35 loc stk M := prefB_run ck_221 _ 35 (by decide +kernel) h
end
/-! StaticKernel$Plan.isTakeable(I)Z -/
set_option maxRecDepth 100000 in
theorem ck_222 : chkM (mt 222) cd_222 = true := by decide +kernel
section
variable {post : Option AV → AMem → Prop} {loc : Lc} {stk : List AV} {M : AMem}
theorem b_222_0 (h : wpl (Wq 222 cd_222 post) post [.aload 0, .iconst 2, .iload 1, .invokevirtual 43573, .ifCond .eq 12, .aload 0, .getfield 53933672439, .iload 1, .baload, .ifCond .ne 12, .iconst 1, .goto 13] 0 loc stk M) : Wq 222 cd_222 post 0 loc stk M := prefB_run ck_222 _ 0 (by decide +kernel) h
theorem b_222_12 (h : wpl (Wq 222 cd_222 post) post [.iconst 0, .ret 1] 12 loc stk M) : Wq 222 cd_222 post 12 loc stk M := prefB_run ck_222 _ 12 (by decide +kernel) h
theorem b_222_13 (h : wpl (Wq 222 cd_222 post) post [.ret 1] 13 loc stk M) : Wq 222 cd_222 post 13 loc stk M := prefB_run ck_222 _ 13 (by decide +kernel) h
end
/-! StaticKernel$Plan.holder(I)I -/
set_option maxRecDepth 100000 in
theorem ck_223 : chkM (mt 223) cd_223 = true := by decide +kernel
section
variable {post : Option AV → AMem → Prop} {loc : Lc} {stk : List AV} {M : AMem}
theorem b_223_0 (h : wpl (Wq 223 cd_223 post) post [.iconst 0, .istore 2] 0 loc stk M) : Wq 223 cd_223 post 0 loc stk M := prefB_run ck_223 _ 0 (by decide +kernel) h
theorem b_223_2 (h : wpl (Wq 223 cd_223 post) post [.iload 2, .aload 0, .getfield 11771906003, .iconst 4, .iaload, .if_icmp .ge 19, .aload 0, .getfield 81191733215, .iload 2, .aaload, .iload 1, .invokevirtual 30760, .ifCond .eq 17, .iload 2, .ret 0] 2 loc stk M) : Wq 223 cd_223 post 2 loc stk M := prefB_run ck_223 _ 2 (by decide +kernel) h
theorem b_223_17 (h : wpl (Wq 223 cd_223 post) post [.iinc 2 1, .goto 2] 17 loc stk M) : Wq 223 cd_223 post 17 loc stk M := prefB_run ck_223 _ 17 (by decide +kernel) h
theorem b_223_19 (h : wpl (Wq 223 cd_223 post) post [.iconst 0, .istore 2] 19 loc stk M) : Wq 223 cd_223 post 19 loc stk M := prefB_run ck_223 _ 19 (by decide +kernel) h
theorem b_223_21 (h : wpl (Wq 223 cd_223 post) post [.iload 2, .aload 0, .getfield 11771906003, .iconst 5, .iaload, .if_icmp .ge 40, .aload 0, .getfield 27505461219, .iload 2, .aaload, .iload 1, .invokevirtual 30760, .ifCond .eq 38, .iconst 100, .iload 2, .iadd, .ret 0] 21 loc stk M) : Wq 223 cd_223 post 21 loc stk M := prefB_run ck_223 _ 21 (by decide +kernel) h
theorem b_223_38 (h : wpl (Wq 223 cd_223 post) post [.iinc 2 1, .goto 21] 38 loc stk M) : Wq 223 cd_223 post 38 loc stk M := prefB_run ck_223 _ 38 (by decide +kernel) h
theorem b_223_40 (h : wpl (Wq 223 cd_223 post) post [.iconst (-1), .ret 0] 40 loc stk M) : Wq 223 cd_223 post 40 loc stk M := prefB_run ck_223 _ 40 (by decide +kernel) h
end
/-! StaticKernel$Worker.hold(I)V -/
set_option maxRecDepth 100000 in
theorem ck_224 : chkM (mt 224) cd_224 = true := by decide +kernel
section
variable {post : Option AV → AMem → Prop} {loc : Lc} {stk : List AV} {M : AMem}
theorem b_224_0 (h : wpl (Wq 224 cd_224 post) post [.aload 0, .getfield 3256, .aload 0, .getfield 53728873655, .arraylength, .if_icmp .ge 18, .aload 0, .getfield 53728873655, .aload 0, .getfield 3256, .iload 1, .iastore, .aload 0, .dup, .getfield 3256, .iconst 1, .iadd, .putfield 3256, .return_] 0 loc stk M) : Wq 224 cd_224 post 0 loc stk M := prefB_run ck_224 _ 0 (by decide +kernel) h
theorem b_224_18 (h : wpl (Wq 224 cd_224 post) post [.return_] 18 loc stk M) : Wq 224 cd_224 post 18 loc stk M := prefB_run ck_224 _ 18 (by decide +kernel) h
end
/-! StaticKernel.give(I)I -/
set_option maxRecDepth 100000 in
theorem ck_225 : chkM (mt 225) cd_225 = true := by decide +kernel
section
variable {post : Option AV → AMem → Prop} {loc : Lc} {stk : List AV} {M : AMem}
theorem b_225_0 (h : wpl (Wq 225 cd_225 post) post [.aload 0, .getfield 4915627, .iconst 6, .aload 0, .iload 1, .invokevirtual 57889, .invokevirtual 53302, .ret 0] 0 loc stk M) : Wq 225 cd_225 post 0 loc stk M := prefB_run ck_225 _ 0 (by decide +kernel) h
end
/-! StaticKernel.tryGive(I)I -/
set_option maxRecDepth 100000 in
theorem ck_226 : chkM (mt 226) cd_226 = true := by decide +kernel
section
variable {post : Option AV → AMem → Prop} {loc : Lc} {stk : List AV} {M : AMem}
theorem b_226_0 (h : wpl (Wq 226 cd_226 post) post [.aload 0, .getfield 4915627, .invokevirtual 52758, .istore 2, .iload 2, .ifCond .eq 8, .iload 2, .ret 0] 0 loc stk M) : Wq 226 cd_226 post 0 loc stk M := prefB_run ck_226 _ 0 (by decide +kernel) h
theorem b_226_8 (h : wpl (Wq 226 cd_226 post) post [.aload 0, .getfield 4096423, .iload 1, .invokevirtual 56869, .ifCond .ne 15, .iconst 3, .ret 0] 8 loc stk M) : Wq 226 cd_226 post 8 loc stk M := prefB_run ck_226 _ 8 (by decide +kernel) h
theorem b_226_15 (h : wpl (Wq 226 cd_226 post) post [.aload 0, .getfield 4915627, .invokevirtual 51478, .astore 3, .aload 3, .invokevirtual 58136, .iload 1, .if_icmp .eq 25, .iconst 5, .ret 0] 15 loc stk M) : Wq 226 cd_226 post 15 loc stk M := prefB_run ck_226 _ 15 (by decide +kernel) h
theorem b_226_25 (h : wpl (Wq 226 cd_226 post) post [.aload 3, .dup, .getfield 3256, .iconst 1, .isub, .putfield 3256, .iconst 0, .ret 0] 25 loc stk M) : Wq 226 cd_226 post 25 loc stk M := prefB_run ck_226 _ 25 (by decide +kernel) h
end
/-! StaticKernel$Worker.lastHeld()I -/
set_option maxRecDepth 100000 in
theorem ck_227 : chkM (mt 227) cd_227 = true := by decide +kernel
section
variable {post : Option AV → AMem → Prop} {loc : Lc} {stk : List AV} {M : AMem}
theorem b_227_0 (h : wpl (Wq 227 cd_227 post) post [.aload 0, .getfield 3256, .ifCond .le 11, .aload 0, .getfield 53728873655, .aload 0, .getfield 3256, .iconst 1, .isub, .iaload, .goto 12] 0 loc stk M) : Wq 227 cd_227 post 0 loc stk M := prefB_run ck_227 _ 0 (by decide +kernel) h
theorem b_227_11 (h : wpl (Wq 227 cd_227 post) post [.iconst (-1), .ret 0] 11 loc stk M) : Wq 227 cd_227 post 11 loc stk M := prefB_run ck_227 _ 11 (by decide +kernel) h
theorem b_227_12 (h : wpl (Wq 227 cd_227 post) post [.ret 0] 12 loc stk M) : Wq 227 cd_227 post 12 loc stk M := prefB_run ck_227 _ 12 (by decide +kernel) h
end
/-! StaticKernel.signal(II)I -/
set_option maxRecDepth 100000 in
theorem ck_228 : chkM (mt 228) cd_228 = true := by decide +kernel
section
variable {post : Option AV → AMem → Prop} {loc : Lc} {stk : List AV} {M : AMem}
theorem b_228_0 (h : wpl (Wq 228 cd_228 post) post [.aload 0, .getfield 4915627, .iconst 7, .aload 0, .iload 1, .iload 2, .invokevirtual 58673, .invokevirtual 53302, .ret 0] 0 loc stk M) : Wq 228 cd_228 post 0 loc stk M := prefB_run ck_228 _ 0 (by decide +kernel) h
end
/-! StaticKernel.trySignal(II)I -/
set_option maxRecDepth 100000 in
theorem ck_229 : chkM (mt 229) cd_229 = true := by decide +kernel
section
variable {post : Option AV → AMem → Prop} {loc : Lc} {stk : List AV} {M : AMem}
theorem b_229_0 (h : wpl (Wq 229 cd_229 post) post [.aload 0, .getfield 4915627, .iload 1, .invokevirtual 58918, .istore 3, .iload 3, .ifCond .ne 13, .aload 0, .getfield 4915627, .iload 1, .iload 2, .invokevirtual 59190, .goto 14] 0 loc stk M) : Wq 229 cd_229 post 0 loc stk M := prefB_run ck_229 _ 0 (by decide +kernel) h
theorem b_229_13 (h : wpl (Wq 229 cd_229 post) post [.iload 3, .ret 0] 13 loc stk M) : Wq 229 cd_229 post 13 loc stk M := prefB_run ck_229 _ 13 (by decide +kernel) h
theorem b_229_14 (h : wpl (Wq 229 cd_229 post) post [.ret 0] 14 loc stk M) : Wq 229 cd_229 post 14 loc stk M := prefB_run ck_229 _ 14 (by decide +kernel) h
end
/-! StaticKernel$Machine.eventEntry(I)I -/
set_option maxRecDepth 100000 in
theorem ck_230 : chkM (mt 230) cd_230 = true := by decide +kernel
section
variable {post : Option AV → AMem → Prop} {loc : Lc} {stk : List AV} {M : AMem}
theorem b_230_0 (h : wpl (Wq 230 cd_230 post) post [.aload 0, .invokevirtual 52758, .istore 2, .iload 2, .ifCond .eq 7, .iload 2, .ret 0] 0 loc stk M) : Wq 230 cd_230 post 0 loc stk M := prefB_run ck_230 _ 0 (by decide +kernel) h
theorem b_230_7 (h : wpl (Wq 230 cd_230 post) post [.aload 0, .getfield 4098403, .iconst 4, .iload 1, .invokevirtual 43573, .ifCond .ne 15, .iconst 3, .ret 0] 7 loc stk M) : Wq 230 cd_230 post 7 loc stk M := prefB_run ck_230 _ 7 (by decide +kernel) h
theorem b_230_15 (h : wpl (Wq 230 cd_230 post) post [.aload 0, .getfield 4098403, .getfield 81191733215, .iload 1, .aaload, .getfield 3212, .ifCond .ne 24, .iconst 1, .ret 0] 15 loc stk M) : Wq 230 cd_230 post 15 loc stk M := prefB_run ck_230 _ 15 (by decide +kernel) h
theorem b_230_24 (h : wpl (Wq 230 cd_230 post) post [.aload 0, .getfield 4098403, .getfield 81191733215, .iload 1, .aaload, .getfield 3228, .ifCond .ne 33, .iconst 7, .goto 34] 24 loc stk M) : Wq 230 cd_230 post 24 loc stk M := prefB_run ck_230 _ 24 (by decide +kernel) h
theorem b_230_33 (h : wpl (Wq 230 cd_230 post) post [.iconst 0, .ret 0] 33 loc stk M) : Wq 230 cd_230 post 33 loc stk M := prefB_run ck_230 _ 33 (by decide +kernel) h
theorem b_230_34 (h : wpl (Wq 230 cd_230 post) post [.ret 0] 34 loc stk M) : Wq 230 cd_230 post 34 loc stk M := prefB_run ck_230 _ 34 (by decide +kernel) h
end
/-! StaticKernel$Machine.setEvents(II)I -/
set_option maxRecDepth 100000 in
theorem ck_231 : chkM (mt 231) cd_231 = true := by decide +kernel
section
variable {post : Option AV → AMem → Prop} {loc : Lc} {stk : List AV} {M : AMem}
theorem b_231_0 (h : wpl (Wq 231 cd_231 post) post [.aload 0, .getfield 4098403, .getfield 81191733215, .iload 1, .aaload, .astore 3, .aload 3, .getfield 3228, .ifCond .ne 11, .iconst 7, .ret 0] 0 loc stk M) : Wq 231 cd_231 post 0 loc stk M := prefB_run ck_231 _ 0 (by decide +kernel) h
theorem b_231_11 (h : wpl (Wq 231 cd_231 post) post [.aload 3, .dup, .getfield 3240, .aload 3, .getfield 3212, .iload 2, .iand, .ior, .putfield 3240, .aload 3, .getfield 3233, .ifCond .eq 42, .aload 3, .getfield 3240, .aload 3, .getfield 3236, .iand, .ifCond .eq 42, .aload 3, .iconst 0, .putfield 3233, .aload 3, .iconst 0, .putfield 3236, .aload 0, .getfield 5736807, .iload 1, .aload 3, .getfield 3200, .iconst 0, .invokevirtual 49991, .iconst 0, .ret 0] 11 loc stk M) : Wq 231 cd_231 post 11 loc stk M := prefB_run ck_231 _ 11 (by decide +kernel) h
theorem b_231_42 (h : wpl (Wq 231 cd_231 post) post [.iconst 0, .ret 0] 42 loc stk M) : Wq 231 cd_231 post 42 loc stk M := prefB_run ck_231 _ 42 (by decide +kernel) h
end
/-! StaticKernel.clear(I)I -/
set_option maxRecDepth 100000 in
theorem ck_232 : chkM (mt 232) cd_232 = true := by decide +kernel
section
variable {post : Option AV → AMem → Prop} {loc : Lc} {stk : List AV} {M : AMem}
theorem b_232_0 (h : wpl (Wq 232 cd_232 post) post [.aload 0, .getfield 4915627, .iconst 8, .aload 0, .iload 1, .invokevirtual 59681, .invokevirtual 53302, .ret 0] 0 loc stk M) : Wq 232 cd_232 post 0 loc stk M := prefB_run ck_232 _ 0 (by decide +kernel) h
end
/-! StaticKernel.tryClear(I)I -/
set_option maxRecDepth 100000 in
theorem ck_233 : chkM (mt 233) cd_233 = true := by decide +kernel
section
variable {post : Option AV → AMem → Prop} {loc : Lc} {stk : List AV} {M : AMem}
theorem b_233_0 (h : wpl (Wq 233 cd_233 post) post [.aload 0, .getfield 4915627, .invokevirtual 59926, .istore 2, .iload 2, .ifCond .ne 16, .aload 0, .getfield 4915627, .invokevirtual 51478, .dup, .getfield 3240, .iload 1, .iconst (-1), .ixor, .iand, .putfield 3240, .iload 2, .ret 0] 0 loc stk M) : Wq 233 cd_233 post 0 loc stk M := prefB_run ck_233 _ 0 (by decide +kernel) h
theorem b_233_16 (h : wpl (Wq 233 cd_233 post) post [.iload 2, .ret 0] 16 loc stk M) : Wq 233 cd_233 post 16 loc stk M := prefB_run ck_233 _ 16 (by decide +kernel) h
end
/-! StaticKernel$Machine.extendedTaskEntry()I -/
set_option maxRecDepth 100000 in
theorem ck_234 : chkM (mt 234) cd_234 = true := by decide +kernel
section
variable {post : Option AV → AMem → Prop} {loc : Lc} {stk : List AV} {M : AMem}
theorem b_234_0 (h : wpl (Wq 234 cd_234 post) post [.aload 0, .invokevirtual 54294, .istore 1, .iload 1, .ifCond .eq 7, .iload 1, .ret 0] 0 loc stk M) : Wq 234 cd_234 post 0 loc stk M := prefB_run ck_234 _ 0 (by decide +kernel) h
theorem b_234_7 (h : wpl (Wq 234 cd_234 post) post [.aload 0, .invokevirtual 51478, .getfield 3212, .ifCond .ne 13, .iconst 1, .goto 14] 7 loc stk M) : Wq 234 cd_234 post 7 loc stk M := prefB_run ck_234 _ 7 (by decide +kernel) h
theorem b_234_13 (h : wpl (Wq 234 cd_234 post) post [.iconst 0, .ret 0] 13 loc stk M) : Wq 234 cd_234 post 13 loc stk M := prefB_run ck_234 _ 13 (by decide +kernel) h
theorem b_234_14 (h : wpl (Wq 234 cd_234 post) post [.ret 0] 14 loc stk M) : Wq 234 cd_234 post 14 loc stk M := prefB_run ck_234 _ 14 (by decide +kernel) h
end
/-! StaticKernel.await(I)I -/
set_option maxRecDepth 100000 in
theorem ck_235 : chkM (mt 235) cd_235 = true := by decide +kernel
section
variable {post : Option AV → AMem → Prop} {loc : Lc} {stk : List AV} {M : AMem}
theorem b_235_0 (h : wpl (Wq 235 cd_235 post) post [.aload 0, .getfield 4915627, .iconst 9, .aload 0, .iload 1, .invokevirtual 60449, .invokevirtual 53302, .ret 0] 0 loc stk M) : Wq 235 cd_235 post 0 loc stk M := prefB_run ck_235 _ 0 (by decide +kernel) h
end
/-! StaticKernel.tryAwait(I)I -/
set_option maxRecDepth 100000 in
theorem ck_236 : chkM (mt 236) cd_236 = true := by decide +kernel
section
variable {post : Option AV → AMem → Prop} {loc : Lc} {stk : List AV} {M : AMem}
theorem b_236_0 (h : wpl (Wq 236 cd_236 post) post [.aload 0, .getfield 4915627, .invokevirtual 59926, .istore 2, .iload 2, .ifCond .eq 8, .iload 2, .ret 0] 0 loc stk M) : Wq 236 cd_236 post 0 loc stk M := prefB_run ck_236 _ 0 (by decide +kernel) h
theorem b_236_8 (h : wpl (Wq 236 cd_236 post) post [.aload 0, .getfield 4915627, .invokevirtual 51478, .getfield 3256, .ifCond .le 15, .iconst 6, .ret 0] 8 loc stk M) : Wq 236 cd_236 post 8 loc stk M := prefB_run ck_236 _ 8 (by decide +kernel) h
theorem b_236_15 (h : wpl (Wq 236 cd_236 post) post [.aload 0, .getfield 4915627, .iload 1, .invokevirtual 60710, .iconst 0, .ret 0] 15 loc stk M) : Wq 236 cd_236 post 15 loc stk M := prefB_run ck_236 _ 15 (by decide +kernel) h
end
/-! StaticKernel$Machine.waitFor(I)V -/
set_option maxRecDepth 100000 in
theorem ck_237 : chkM (mt 237) cd_237 = true := by decide +kernel
section
variable {post : Option AV → AMem → Prop} {loc : Lc} {stk : List AV} {M : AMem}
theorem b_237_0 (h : wpl (Wq 237 cd_237 post) post [.aload 0, .getfield 4098403, .getfield 81191733215, .aload 0, .getfield 2420, .aaload, .astore 2, .aload 2, .getfield 3240, .iload 1, .iand, .ifCond .ne 23, .aload 2, .iconst 1, .putfield 3233, .aload 2, .aload 2, .getfield 3212, .iload 1, .iand, .putfield 3236, .aload 0, .invokevirtual 54806, .return_] 0 loc stk M) : Wq 237 cd_237 post 0 loc stk M := prefB_run ck_237 _ 0 (by decide +kernel) h
theorem b_237_23 (h : wpl (Wq 237 cd_237 post) post [.return_] 23 loc stk M) : Wq 237 cd_237 post 23 loc stk M := prefB_run ck_237 _ 23 (by decide +kernel) h
end
/-! StaticKernel.given(I)J -/
set_option maxRecDepth 100000 in
theorem ck_238 : chkM (mt 238) cd_238 = true := by decide +kernel
section
variable {post : Option AV → AMem → Prop} {loc : Lc} {stk : List AV} {M : AMem}
theorem b_238_0 (h : wpl (Wq 238 cd_238 post) post [.aload 0, .getfield 4915627, .iconst 10, .aload 0, .getfield 4915627, .iload 1, .invokevirtual 58918, .invokevirtual 53302, .istore 2, .iload 2, .ifCond .ne 19, .aload 0, .getfield 4096423, .getfield 81191733215, .iload 1, .aaload, .getfield 3240, .invokestatic 61200, .goto 22] 0 loc stk M) : Wq 238 cd_238 post 0 loc stk M := prefB_run ck_238 _ 0 (by decide +kernel) h
theorem b_238_19 (h : wpl (Wq 238 cd_238 post) post [.iload 2, .ineg, .i2l, .lreturn] 19 loc stk M) : Wq 238 cd_238 post 19 loc stk M := prefB_run ck_238 _ 19 (by decide +kernel) h
theorem b_238_22 (h : wpl (Wq 238 cd_238 post) post [.lreturn] 22 loc stk M) : Wq 238 cd_238 post 22 loc stk M := prefB_run ck_238 _ 22 (by decide +kernel) h
end
/-! StaticKernel.asBits(I)J -/
set_option maxRecDepth 100000 in
theorem ck_239 : chkM (mt 239) cd_239 = true := by decide +kernel
section
variable {post : Option AV → AMem → Prop} {loc : Lc} {stk : List AV} {M : AMem}
theorem b_239_0 (h : wpl (Wq 239 cd_239 post) post [.iload 0, .i2l, .ldc2_w 4294967295, .land, .lreturn] 0 loc stk M) : Wq 239 cd_239 post 0 loc stk M := prefB_run ck_239 _ 0 (by decide +kernel) h
end
/-! StaticKernel.after(III)I -/
set_option maxRecDepth 100000 in
theorem ck_240 : chkM (mt 240) cd_240 = true := by decide +kernel
section
variable {post : Option AV → AMem → Prop} {loc : Lc} {stk : List AV} {M : AMem}
theorem b_240_0 (h : wpl (Wq 240 cd_240 post) post [.aload 0, .getfield 4915627, .iconst 11, .aload 0, .iload 1, .iload 2, .iload 3, .invokevirtual 61761, .invokevirtual 53302, .ret 0] 0 loc stk M) : Wq 240 cd_240 post 0 loc stk M := prefB_run ck_240 _ 0 (by decide +kernel) h
end
/-! StaticKernel.tryAfter(III)I -/
set_option maxRecDepth 100000 in
theorem ck_241 : chkM (mt 241) cd_241 = true := by decide +kernel
section
variable {post : Option AV → AMem → Prop} {loc : Lc} {stk : List AV} {M : AMem}
theorem b_241_0 (h : wpl (Wq 241 cd_241 post) post [.aload 0, .iload 1, .iconst 1, .iload 2, .iload 3, .invokevirtual 62033, .istore 4, .iload 4, .ifCond .ne 26, .aload 0, .getfield 4096423, .getfield 81194190827, .iload 1, .aaload, .astore 5, .aload 5, .aload 0, .getfield 4096423, .getfield 27506280423, .aload 5, .getfield 4000, .aaload, .iload 2, .invokevirtual 50473, .iload 3, .invokevirtual 50746, .iload 4, .ret 0] 0 loc stk M) : Wq 241 cd_241 post 0 loc stk M := prefB_run ck_241 _ 0 (by decide +kernel) h
theorem b_241_26 (h : wpl (Wq 241 cd_241 post) post [.iload 4, .ret 0] 26 loc stk M) : Wq 241 cd_241 post 26 loc stk M := prefB_run ck_241 _ 26 (by decide +kernel) h
end
/-! StaticKernel.alarmEntry(IIII)I -/
set_option maxRecDepth 100000 in
theorem ck_242 : chkM (mt 242) cd_242 = true := by decide +kernel
section
variable {post : Option AV → AMem → Prop} {loc : Lc} {stk : List AV} {M : AMem}
theorem b_242_0 (h : wpl (Wq 242 cd_242 post) post [.aload 0, .getfield 4915627, .invokevirtual 52758, .istore 5, .iload 5, .ifCond .eq 8, .iload 5, .ret 0] 0 loc stk M) : Wq 242 cd_242 post 0 loc stk M := prefB_run ck_242 _ 0 (by decide +kernel) h
theorem b_242_8 (h : wpl (Wq 242 cd_242 post) post [.aload 0, .getfield 4096423, .iconst 6, .iload 1, .invokevirtual 43573, .ifCond .ne 16, .iconst 3, .ret 0] 8 loc stk M) : Wq 242 cd_242 post 8 loc stk M := prefB_run ck_242 _ 8 (by decide +kernel) h
theorem b_242_16 (h : wpl (Wq 242 cd_242 post) post [.aload 0, .getfield 4096423, .getfield 81194190827, .iload 1, .aaload, .astore 6, .aload 6, .getfield 4025, .ifCond .eq 27, .iconst 7, .ret 0] 16 loc stk M) : Wq 242 cd_242 post 16 loc stk M := prefB_run ck_242 _ 16 (by decide +kernel) h
theorem b_242_27 (h : wpl (Wq 242 cd_242 post) post [.aload 0, .getfield 4096423, .getfield 27506280423, .aload 6, .getfield 4000, .aaload, .astore 7, .iload 3, .iload 2, .if_icmp .lt 47, .iload 3, .aload 7, .getfield 3600, .if_icmp .gt 47, .aload 7, .iload 4, .invokevirtual 62249, .ifCond .eq 47, .iconst 1, .goto 48] 27 loc stk M) : Wq 242 cd_242 post 27 loc stk M := prefB_run ck_242 _ 27 (by decide +kernel) h
theorem b_242_47 (h : wpl (Wq 242 cd_242 post) post [.iconst 0, .istore 8, .iload 8, .ifCond .eq 53, .iconst 0, .goto 54] 47 loc stk M) : Wq 242 cd_242 post 47 loc stk M := prefB_run ck_242 _ 47 (by decide +kernel) h
theorem b_242_48 (h : wpl (Wq 242 cd_242 post) post [.istore 8, .iload 8, .ifCond .eq 53, .iconst 0, .goto 54] 48 loc stk M) : Wq 242 cd_242 post 48 loc stk M := prefB_run ck_242 _ 48 (by decide +kernel) h
theorem b_242_53 (h : wpl (Wq 242 cd_242 post) post [.iconst 8, .ret 0] 53 loc stk M) : Wq 242 cd_242 post 53 loc stk M := prefB_run ck_242 _ 53 (by decide +kernel) h
theorem b_242_54 (h : wpl (Wq 242 cd_242 post) post [.ret 0] 54 loc stk M) : Wq 242 cd_242 post 54 loc stk M := prefB_run ck_242 _ 54 (by decide +kernel) h
end
/-! StaticKernel$Counter.allowsEvery(I)Z -/
set_option maxRecDepth 100000 in
theorem ck_243 : chkM (mt 243) cd_243 = true := by decide +kernel
section
variable {post : Option AV → AMem → Prop} {loc : Lc} {stk : List AV} {M : AMem}
theorem b_243_0 (h : wpl (Wq 243 cd_243 post) post [.iload 1, .ifCond .eq 10, .iload 1, .aload 0, .getfield 3608, .if_icmp .lt 12, .iload 1, .aload 0, .getfield 3600, .if_icmp .gt 12, .iconst 1, .goto 13] 0 loc stk M) : Wq 243 cd_243 post 0 loc stk M := prefB_run ck_243 _ 0 (by decide +kernel) h
theorem b_243_10 (h : wpl (Wq 243 cd_243 post) post [.iconst 1, .goto 13] 10 loc stk M) : Wq 243 cd_243 post 10 loc stk M := prefB_run ck_243 _ 10 (by decide +kernel) h
theorem b_243_12 (h : wpl (Wq 243 cd_243 post) post [.iconst 0, .ret 1] 12 loc stk M) : Wq 243 cd_243 post 12 loc stk M := prefB_run ck_243 _ 12 (by decide +kernel) h
theorem b_243_13 (h : wpl (Wq 243 cd_243 post) post [.ret 1] 13 loc stk M) : Wq 243 cd_243 post 13 loc stk M := prefB_run ck_243 _ 13 (by decide +kernel) h
end
/-! StaticKernel.at(III)I -/
set_option maxRecDepth 100000 in
theorem ck_244 : chkM (mt 244) cd_244 = true := by decide +kernel
section
variable {post : Option AV → AMem → Prop} {loc : Lc} {stk : List AV} {M : AMem}
theorem b_244_0 (h : wpl (Wq 244 cd_244 post) post [.aload 0, .getfield 4915627, .iconst 12, .aload 0, .iload 1, .iload 2, .iload 3, .invokevirtual 62785, .invokevirtual 53302, .ret 0] 0 loc stk M) : Wq 244 cd_244 post 0 loc stk M := prefB_run ck_244 _ 0 (by decide +kernel) h
end
/-! StaticKernel.tryAt(III)I -/
set_option maxRecDepth 100000 in
theorem ck_245 : chkM (mt 245) cd_245 = true := by decide +kernel
section
variable {post : Option AV → AMem → Prop} {loc : Lc} {stk : List AV} {M : AMem}
theorem b_245_0 (h : wpl (Wq 245 cd_245 post) post [.aload 0, .iload 1, .iconst 0, .iload 2, .iload 3, .invokevirtual 62033, .istore 4, .iload 4, .ifCond .ne 17, .aload 0, .getfield 4096423, .getfield 81194190827, .iload 1, .aaload, .iload 2, .iload 3, .invokevirtual 50746, .iload 4, .ret 0] 0 loc stk M) : Wq 245 cd_245 post 0 loc stk M := prefB_run ck_245 _ 0 (by decide +kernel) h
theorem b_245_17 (h : wpl (Wq 245 cd_245 post) post [.iload 4, .ret 0] 17 loc stk M) : Wq 245 cd_245 post 17 loc stk M := prefB_run ck_245 _ 17 (by decide +kernel) h
end
/-! StaticKernel.cancel(I)I -/
set_option maxRecDepth 100000 in
theorem ck_246 : chkM (mt 246) cd_246 = true := by decide +kernel
section
variable {post : Option AV → AMem → Prop} {loc : Lc} {stk : List AV} {M : AMem}
theorem b_246_0 (h : wpl (Wq 246 cd_246 post) post [.aload 0, .getfield 4915627, .iconst 13, .aload 0, .iload 1, .invokevirtual 63265, .invokevirtual 53302, .ret 0] 0 loc stk M) : Wq 246 cd_246 post 0 loc stk M := prefB_run ck_246 _ 0 (by decide +kernel) h
end
/-! StaticKernel.tryCancel(I)I -/
set_option maxRecDepth 100000 in
theorem ck_247 : chkM (mt 247) cd_247 = true := by decide +kernel
section
variable {post : Option AV → AMem → Prop} {loc : Lc} {stk : List AV} {M : AMem}
theorem b_247_0 (h : wpl (Wq 247 cd_247 post) post [.aload 0, .iload 1, .invokevirtual 63521, .istore 2, .iload 2, .ifCond .ne 13, .aload 0, .getfield 4096423, .getfield 81194190827, .iload 1, .aaload, .iconst 0, .putfield 4025, .iload 2, .ret 0] 0 loc stk M) : Wq 247 cd_247 post 0 loc stk M := prefB_run ck_247 _ 0 (by decide +kernel) h
theorem b_247_13 (h : wpl (Wq 247 cd_247 post) post [.iload 2, .ret 0] 13 loc stk M) : Wq 247 cd_247 post 13 loc stk M := prefB_run ck_247 _ 13 (by decide +kernel) h
end
/-! StaticKernel.usedAlarmEntry(I)I -/
set_option maxRecDepth 100000 in
theorem ck_248 : chkM (mt 248) cd_248 = true := by decide +kernel
section
variable {post : Option AV → AMem → Prop} {loc : Lc} {stk : List AV} {M : AMem}
theorem b_248_0 (h : wpl (Wq 248 cd_248 post) post [.aload 0, .getfield 4915627, .invokevirtual 52758, .istore 2, .iload 2, .ifCond .eq 8, .iload 2, .ret 0] 0 loc stk M) : Wq 248 cd_248 post 0 loc stk M := prefB_run ck_248 _ 0 (by decide +kernel) h
theorem b_248_8 (h : wpl (Wq 248 cd_248 post) post [.aload 0, .getfield 4096423, .iconst 6, .iload 1, .invokevirtual 43573, .ifCond .ne 16, .iconst 3, .ret 0] 8 loc stk M) : Wq 248 cd_248 post 8 loc stk M := prefB_run ck_248 _ 8 (by decide +kernel) h
theorem b_248_16 (h : wpl (Wq 248 cd_248 post) post [.aload 0, .getfield 4096423, .getfield 81194190827, .iload 1, .aaload, .getfield 4025, .ifCond .eq 25, .iconst 0, .goto 26] 16 loc stk M) : Wq 248 cd_248 post 16 loc stk M := prefB_run ck_248 _ 16 (by decide +kernel) h
theorem b_248_25 (h : wpl (Wq 248 cd_248 post) post [.iconst 5, .ret 0] 25 loc stk M) : Wq 248 cd_248 post 25 loc stk M := prefB_run ck_248 _ 25 (by decide +kernel) h
theorem b_248_26 (h : wpl (Wq 248 cd_248 post) post [.ret 0] 26 loc stk M) : Wq 248 cd_248 post 26 loc stk M := prefB_run ck_248 _ 26 (by decide +kernel) h
end
