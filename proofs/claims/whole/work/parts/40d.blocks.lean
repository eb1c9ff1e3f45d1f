/-! StaticKernel.left(I)I -/
set_option maxRecDepth 100000 in
theorem ck_249 : chkM (mt 249) cd_249 = true := by decide +kernel
section
variable {post : Option AV → AMem → Prop} {loc : Lc} {stk : List AV} {M : AMem}
theorem b_249_0 (h : wpl (Wq 249 cd_249 post) post [.aload 0, .getfield 4915627, .iconst 14, .aload 0, .iload 1, .invokevirtual 63521, .invokevirtual 53302, .istore 2, .iload 2, .ifCond .ne 15, .aload 0, .getfield 4096423, .iload 1, .invokevirtual 64037, .goto 17] 0 loc stk M) : Wq 249 cd_249 post 0 loc stk M := prefB_run ck_249 _ 0 (by decide +kernel) h
theorem b_249_15 (h : wpl (Wq 249 cd_249 post) post [.iload 2, .ineg, .ret 0] 15 loc stk M) : Wq 249 cd_249 post 15 loc stk M := prefB_run ck_249 _ 15 (by decide +kernel) h
theorem b_249_17 (h : wpl (Wq 249 cd_249 post) post [.ret 0] 17 loc stk M) : Wq 249 cd_249 post 17 loc stk M := prefB_run ck_249 _ 17 (by decide +kernel) h
end
/-! StaticKernel$Plan.stepsToAlarm(I)I -/
set_option maxRecDepth 100000 in
theorem ck_250 : chkM (mt 250) cd_250 = true := by decide +kernel
section
variable {post : Option AV → AMem → Prop} {loc : Lc} {stk : List AV} {M : AMem}
theorem b_250_0 (h : wpl (Wq 250 cd_250 post) post [.aload 0, .getfield 81194190827, .iload 1, .aaload, .astore 2, .aload 0, .getfield 27506280423, .aload 2, .getfield 4000, .aaload, .aload 2, .getfield 4028, .invokevirtual 64297, .ret 0] 0 loc stk M) : Wq 250 cd_250 post 0 loc stk M := prefB_run ck_250 _ 0 (by decide +kernel) h
end
/-! StaticKernel$Counter.stepsTo(I)I -/
set_option maxRecDepth 100000 in
theorem ck_251 : chkM (mt 251) cd_251 = true := by decide +kernel
section
variable {post : Option AV → AMem → Prop} {loc : Lc} {stk : List AV} {M : AMem}
theorem b_251_0 (h : wpl (Wq 251 cd_251 post) post [.iload 1, .aload 0, .getfield 3612, .if_icmp .le 9, .iload 1, .aload 0, .getfield 3612, .isub, .goto 18] 0 loc stk M) : Wq 251 cd_251 post 0 loc stk M := prefB_run ck_251 _ 0 (by decide +kernel) h
theorem b_251_9 (h : wpl (Wq 251 cd_251 post) post [.iload 1, .aload 0, .getfield 3612, .isub, .aload 0, .getfield 3600, .iadd, .iconst 1, .iadd, .ret 0] 9 loc stk M) : Wq 251 cd_251 post 9 loc stk M := prefB_run ck_251 _ 9 (by decide +kernel) h
theorem b_251_18 (h : wpl (Wq 251 cd_251 post) post [.ret 0] 18 loc stk M) : Wq 251 cd_251 post 18 loc stk M := prefB_run ck_251 _ 18 (by decide +kernel) h
end
/-! StaticKernel.shut()I -/
set_option maxRecDepth 100000 in
theorem ck_252 : chkM (mt 252) cd_252 = true := by decide +kernel
section
variable {post : Option AV → AMem → Prop} {loc : Lc} {stk : List AV} {M : AMem}
theorem b_252_0 (h : wpl (Wq 252 cd_252 post) post [.aload 0, .getfield 4915627, .iconst 15, .aload 0, .invokevirtual 64785, .invokevirtual 53302, .ret 0] 0 loc stk M) : Wq 252 cd_252 post 0 loc stk M := prefB_run ck_252 _ 0 (by decide +kernel) h
end
/-! StaticKernel.tryShut()I -/
set_option maxRecDepth 100000 in
theorem ck_253 : chkM (mt 253) cd_253 = true := by decide +kernel
section
variable {post : Option AV → AMem → Prop} {loc : Lc} {stk : List AV} {M : AMem}
theorem b_253_0 (h : wpl (Wq 253 cd_253 post) post [.aload 0, .getfield 4915627, .invokevirtual 53014, .ifCond .eq 6, .iconst 10, .ret 0] 0 loc stk M) : Wq 253 cd_253 post 0 loc stk M := prefB_run ck_253 _ 0 (by decide +kernel) h
theorem b_253_6 (h : wpl (Wq 253 cd_253 post) post [.aload 0, .getfield 4915627, .getfield 2416, .iconst 100, .if_icmp .lt 13, .iconst 4, .ret 0] 6 loc stk M) : Wq 253 cd_253 post 6 loc stk M := prefB_run ck_253 _ 6 (by decide +kernel) h
theorem b_253_13 (h : wpl (Wq 253 cd_253 post) post [.aload 0, .getfield 4915627, .dup, .getfield 2416, .iconst 1, .iadd, .putfield 2416, .iconst 0, .ret 0] 13 loc stk M) : Wq 253 cd_253 post 13 loc stk M := prefB_run ck_253 _ 13 (by decide +kernel) h
end
/-! StaticKernel.open()I -/
set_option maxRecDepth 100000 in
theorem ck_254 : chkM (mt 254) cd_254 = true := by decide +kernel
section
variable {post : Option AV → AMem → Prop} {loc : Lc} {stk : List AV} {M : AMem}
theorem b_254_0 (h : wpl (Wq 254 cd_254 post) post [.aload 0, .invokevirtual 65297, .istore 1, .iload 1, .ifCond .ne 11, .aload 0, .getfield 4915627, .getfield 2416, .ifCond .ne 11, .aload 0, .invokevirtual 65553, .aload 0, .getfield 4915627, .iconst 16, .iload 1, .invokevirtual 53302, .ret 0] 0 loc stk M) : Wq 254 cd_254 post 0 loc stk M := prefB_run ck_254 _ 0 (by decide +kernel) h
theorem b_254_11 (h : wpl (Wq 254 cd_254 post) post [.aload 0, .getfield 4915627, .iconst 16, .iload 1, .invokevirtual 53302, .ret 0] 11 loc stk M) : Wq 254 cd_254 post 11 loc stk M := prefB_run ck_254 _ 11 (by decide +kernel) h
end
/-! StaticKernel.tryOpen()I -/
set_option maxRecDepth 100000 in
theorem ck_255 : chkM (mt 255) cd_255 = true := by decide +kernel
section
variable {post : Option AV → AMem → Prop} {loc : Lc} {stk : List AV} {M : AMem}
theorem b_255_0 (h : wpl (Wq 255 cd_255 post) post [.aload 0, .getfield 4915627, .invokevirtual 53014, .ifCond .eq 6, .iconst 10, .ret 0] 0 loc stk M) : Wq 255 cd_255 post 0 loc stk M := prefB_run ck_255 _ 0 (by decide +kernel) h
theorem b_255_6 (h : wpl (Wq 255 cd_255 post) post [.aload 0, .getfield 4915627, .getfield 2416, .ifCond .ne 12, .iconst 5, .ret 0] 6 loc stk M) : Wq 255 cd_255 post 6 loc stk M := prefB_run ck_255 _ 6 (by decide +kernel) h
theorem b_255_12 (h : wpl (Wq 255 cd_255 post) post [.aload 0, .getfield 4915627, .dup, .getfield 2416, .iconst 1, .isub, .putfield 2416, .iconst 0, .ret 0] 12 loc stk M) : Wq 255 cd_255 post 12 loc stk M := prefB_run ck_255 _ 12 (by decide +kernel) h
end
/-! StaticKernel.doWaitingTicks()V -/
set_option maxRecDepth 100000 in
theorem ck_256 : chkM (mt 256) cd_256 = true := by decide +kernel
section
variable {post : Option AV → AMem → Prop} {loc : Lc} {stk : List AV} {M : AMem}
theorem b_256_0 (h : wpl (Wq 256 cd_256 post) post [.iconst 0, .istore 1] 0 loc stk M) : Wq 256 cd_256 post 0 loc stk M := prefB_run ck_256 _ 0 (by decide +kernel) h
theorem b_256_2 (h : wpl (Wq 256 cd_256 post) post [.iload 1, .aload 0, .getfield 4096423, .getfield 11771906003, .iconst 3, .iaload, .if_icmp .ge 29, .aload 0, .getfield 4096423, .getfield 27506280423, .iload 1, .aaload, .astore 2, .aload 2, .getfield 3620, .istore 3, .aload 2, .iconst 0, .putfield 3620, .aload 0, .getfield 4915627, .iload 1, .iload 3, .invokevirtual 65846, .pop, .iinc 1 1, .goto 2] 2 loc stk M) : Wq 256 cd_256 post 2 loc stk M := prefB_run ck_256 _ 2 (by decide +kernel) h
theorem b_256_29 (h : wpl (Wq 256 cd_256 post) post [.return_] 29 loc stk M) : Wq 256 cd_256 post 29 loc stk M := prefB_run ck_256 _ 29 (by decide +kernel) h
end
/-! StaticKernel$Machine.tickTimes(II)I -/
set_option maxRecDepth 100000 in
theorem ck_257 : chkM (mt 257) cd_257 = true := by decide +kernel
section
variable {post : Option AV → AMem → Prop} {loc : Lc} {stk : List AV} {M : AMem}
theorem b_257_0 (h : wpl (Wq 257 cd_257 post) post [.iconst 0, .istore 3, .iconst 0, .istore 4] 0 loc stk M) : Wq 257 cd_257 post 0 loc stk M := prefB_run ck_257 _ 0 (by decide +kernel) h
theorem b_257_4 (h : wpl (Wq 257 cd_257 post) post [.iload 4, .iload 2, .if_icmp .ge 24, .aload 0, .getfield 4098403, .getfield 27506280423, .iload 1, .aaload, .invokevirtual 66073, .ifCond .eq 20, .iload 3, .aload 0, .iload 1, .invokevirtual 66342, .iadd, .istore 3, .aload 0, .invokevirtual 50966, .iinc 4 1, .goto 4] 4 loc stk M) : Wq 257 cd_257 post 4 loc stk M := prefB_run ck_257 _ 4 (by decide +kernel) h
theorem b_257_20 (h : wpl (Wq 257 cd_257 post) post [.aload 0, .invokevirtual 50966, .iinc 4 1, .goto 4] 20 loc stk M) : Wq 257 cd_257 post 20 loc stk M := prefB_run ck_257 _ 20 (by decide +kernel) h
theorem b_257_24 (h : wpl (Wq 257 cd_257 post) post [.iload 3, .ret 0] 24 loc stk M) : Wq 257 cd_257 post 24 loc stk M := prefB_run ck_257 _ 24 (by decide +kernel) h
end
/-! StaticKernel$Counter.advance()Z -/
set_option maxRecDepth 100000 in
theorem ck_258 : chkM (mt 258) cd_258 = true := by decide +kernel
section
variable {post : Option AV → AMem → Prop} {loc : Lc} {stk : List AV} {M : AMem}
theorem b_258_0 (h : wpl (Wq 258 cd_258 post) post [.aload 0, .dup, .getfield 3616, .iconst 1, .iadd, .putfield 3616, .aload 0, .getfield 3616, .aload 0, .getfield 3604, .if_icmp .ge 13, .iconst 0, .ret 1] 0 loc stk M) : Wq 258 cd_258 post 0 loc stk M := prefB_run ck_258 _ 0 (by decide +kernel) h
theorem b_258_13 (h : wpl (Wq 258 cd_258 post) post [.aload 0, .iconst 0, .putfield 3616, .aload 0, .aload 0, .iconst 1, .invokevirtual 50473, .putfield 3612, .iconst 1, .ret 1] 13 loc stk M) : Wq 258 cd_258 post 13 loc stk M := prefB_run ck_258 _ 13 (by decide +kernel) h
end
/-! StaticKernel$Machine.meetAlarms(I)I -/
set_option maxRecDepth 100000 in
theorem ck_259 : chkM (mt 259) cd_259 = true := by decide +kernel
section
variable {post : Option AV → AMem → Prop} {loc : Lc} {stk : List AV} {M : AMem}
theorem b_259_0 (h : wpl (Wq 259 cd_259 post) post [.aload 0, .getfield 4098403, .getfield 27506280423, .iload 1, .aaload, .getfield 3612, .istore 2, .iconst 0, .istore 3, .iconst 0, .istore 4] 0 loc stk M) : Wq 259 cd_259 post 0 loc stk M := prefB_run ck_259 _ 0 (by decide +kernel) h
theorem b_259_11 (h : wpl (Wq 259 cd_259 post) post [.iload 4, .aload 0, .getfield 4098403, .getfield 11771906003, .iconst 6, .iaload, .if_icmp .ge 41, .aload 0, .getfield 4098403, .getfield 81194190827, .iload 4, .aaload, .astore 5, .aload 5, .getfield 4000, .iload 1, .if_icmp .ne 39, .aload 5, .getfield 4025, .ifCond .eq 39, .aload 5, .getfield 4028, .iload 2, .if_icmp .ne 39, .iinc 3 1, .aload 0, .iload 4, .invokevirtual 66598, .iinc 4 1, .goto 11] 11 loc stk M) : Wq 259 cd_259 post 11 loc stk M := prefB_run ck_259 _ 11 (by decide +kernel) h
theorem b_259_39 (h : wpl (Wq 259 cd_259 post) post [.iinc 4 1, .goto 11] 39 loc stk M) : Wq 259 cd_259 post 39 loc stk M := prefB_run ck_259 _ 39 (by decide +kernel) h
theorem b_259_41 (h : wpl (Wq 259 cd_259 post) post [.iload 3, .ret 0] 41 loc stk M) : Wq 259 cd_259 post 41 loc stk M := prefB_run ck_259 _ 41 (by decide +kernel) h
end
/-! StaticKernel$Machine.meet(I)V -/
set_option maxRecDepth 100000 in
theorem ck_260 : chkM (mt 260) cd_260 = true := by decide +kernel
section
variable {post : Option AV → AMem → Prop} {loc : Lc} {stk : List AV} {M : AMem}
theorem b_260_0 (h : wpl (Wq 260 cd_260 post) post [.aload 0, .getfield 4098403, .getfield 81194190827, .iload 1, .aaload, .astore 2, .aload 0, .iconst 40000, .iload 1, .iadd, .invokevirtual 48934, .iconst 0, .istore 3, .aload 2, .getfield 4008, .iconst (-1), .if_icmp .eq 27, .aload 0, .aload 2, .getfield 4004, .iconst 1, .aload 2, .getfield 4008, .ishl, .invokevirtual 59190, .istore 3, .goto 36] 0 loc stk M) : Wq 260 cd_260 post 0 loc stk M := prefB_run ck_260 _ 0 (by decide +kernel) h
theorem b_260_27 (h : wpl (Wq 260 cd_260 post) post [.aload 2, .getfield 4004, .iconst (-1), .if_icmp .eq 36, .aload 0, .aload 2, .getfield 4004, .invokevirtual 49446, .istore 3, .iload 3, .ifCond .eq 43, .aload 0, .iconst 32000, .iload 3, .iadd, .invokevirtual 48934, .aload 2, .aload 2, .getfield 4032, .ifCond .eq 49, .iconst 1, .goto 50] 27 loc stk M) : Wq 260 cd_260 post 27 loc stk M := prefB_run ck_260 _ 27 (by decide +kernel) h
theorem b_260_36 (h : wpl (Wq 260 cd_260 post) post [.iload 3, .ifCond .eq 43, .aload 0, .iconst 32000, .iload 3, .iadd, .invokevirtual 48934, .aload 2, .aload 2, .getfield 4032, .ifCond .eq 49, .iconst 1, .goto 50] 36 loc stk M) : Wq 260 cd_260 post 36 loc stk M := prefB_run ck_260 _ 36 (by decide +kernel) h
theorem b_260_43 (h : wpl (Wq 260 cd_260 post) post [.aload 2, .aload 2, .getfield 4032, .ifCond .eq 49, .iconst 1, .goto 50] 43 loc stk M) : Wq 260 cd_260 post 43 loc stk M := prefB_run ck_260 _ 43 (by decide +kernel) h
theorem b_260_49 (h : wpl (Wq 260 cd_260 post) post [.iconst 0, .putfield 4025, .aload 2, .aload 0, .getfield 4098403, .getfield 27506280423, .aload 2, .getfield 4000, .aaload, .aload 2, .getfield 4032, .invokevirtual 50473, .putfield 4028, .return_] 49 loc stk M) : Wq 260 cd_260 post 49 loc stk M := prefB_run ck_260 _ 49 (by decide +kernel) h
theorem b_260_50 (h : wpl (Wq 260 cd_260 post) post [.putfield 4025, .aload 2, .aload 0, .getfield 4098403, .getfield 27506280423, .aload 2, .getfield 4000, .aaload, .aload 2, .getfield 4032, .invokevirtual 50473, .putfield 4028, .return_] 50 loc stk M) : Wq 260 cd_260 post 50 loc stk M := prefB_run ck_260 _ 50 (by decide +kernel) h
end
/-! StaticKernel.leave()I -/
set_option maxRecDepth 100000 in
theorem ck_261 : chkM (mt 261) cd_261 = true := by decide +kernel
section
variable {post : Option AV → AMem → Prop} {loc : Lc} {stk : List AV} {M : AMem}
theorem b_261_0 (h : wpl (Wq 261 cd_261 post) post [.aload 0, .getfield 4915627, .iconst 17, .aload 0, .invokevirtual 67089, .invokevirtual 53302, .ret 0] 0 loc stk M) : Wq 261 cd_261 post 0 loc stk M := prefB_run ck_261 _ 0 (by decide +kernel) h
end
/-! StaticKernel.tryLeave()I -/
set_option maxRecDepth 100000 in
theorem ck_262 : chkM (mt 262) cd_262 = true := by decide +kernel
section
variable {post : Option AV → AMem → Prop} {loc : Lc} {stk : List AV} {M : AMem}
theorem b_262_0 (h : wpl (Wq 262 cd_262 post) post [.aload 0, .getfield 4915627, .invokevirtual 52758, .istore 1, .iload 1, .ifCond .eq 8, .iload 1, .ret 0] 0 loc stk M) : Wq 262 cd_262 post 0 loc stk M := prefB_run ck_262 _ 0 (by decide +kernel) h
theorem b_262_8 (h : wpl (Wq 262 cd_262 post) post [.aload 0, .getfield 4915627, .getfield 2428, .ifCond .ne 14, .iconst 2, .ret 0] 8 loc stk M) : Wq 262 cd_262 post 8 loc stk M := prefB_run ck_262 _ 8 (by decide +kernel) h
theorem b_262_14 (h : wpl (Wq 262 cd_262 post) post [.aload 0, .getfield 4915627, .invokevirtual 51478, .getfield 3256, .ifCond .le 21, .iconst 6, .ret 0] 14 loc stk M) : Wq 262 cd_262 post 14 loc stk M := prefB_run ck_262 _ 14 (by decide +kernel) h
theorem b_262_21 (h : wpl (Wq 262 cd_262 post) post [.aload 0, .getfield 4915627, .invokevirtual 67350, .iconst 0, .ret 0] 21 loc stk M) : Wq 262 cd_262 post 21 loc stk M := prefB_run ck_262 _ 21 (by decide +kernel) h
end
/-! StaticKernel$Machine.endIsr()V -/
set_option maxRecDepth 100000 in
theorem ck_263 : chkM (mt 263) cd_263 = true := by decide +kernel
section
variable {post : Option AV → AMem → Prop} {loc : Lc} {stk : List AV} {M : AMem}
theorem b_263_0 (h : wpl (Wq 263 cd_263 post) post [.aload 0, .iconst 60000, .aload 0, .invokevirtual 67606, .iadd, .invokevirtual 48934, .aload 0, .dup, .getfield 2428, .iconst 1, .isub, .putfield 2428, .return_] 0 loc stk M) : Wq 263 cd_263 post 0 loc stk M := prefB_run ck_263 _ 0 (by decide +kernel) h
end
/-! StaticKernel$Machine.lastBegun()I -/
set_option maxRecDepth 100000 in
theorem ck_264 : chkM (mt 264) cd_264 = true := by decide +kernel
section
variable {post : Option AV → AMem → Prop} {loc : Lc} {stk : List AV} {M : AMem}
theorem b_264_0 (h : wpl (Wq 264 cd_264 post) post [.aload 0, .getfield 2428, .ifCond .le 11, .aload 0, .getfield 26882050427, .aload 0, .getfield 2428, .iconst 1, .isub, .iaload, .goto 12] 0 loc stk M) : Wq 264 cd_264 post 0 loc stk M := prefB_run ck_264 _ 0 (by decide +kernel) h
theorem b_264_11 (h : wpl (Wq 264 cd_264 post) post [.iconst (-1), .ret 0] 11 loc stk M) : Wq 264 cd_264 post 11 loc stk M := prefB_run ck_264 _ 11 (by decide +kernel) h
theorem b_264_12 (h : wpl (Wq 264 cd_264 post) post [.ret 0] 12 loc stk M) : Wq 264 cd_264 post 12 loc stk M := prefB_run ck_264 _ 12 (by decide +kernel) h
end
/-! StaticKernel.halt(I)I -/
set_option maxRecDepth 100000 in
theorem ck_265 : chkM (mt 265) cd_265 = true := by decide +kernel
section
variable {post : Option AV → AMem → Prop} {loc : Lc} {stk : List AV} {M : AMem}
theorem b_265_0 (h : wpl (Wq 265 cd_265 post) post [.aload 0, .getfield 4915627, .iconst 18, .aload 0, .iload 1, .invokevirtual 68129, .invokevirtual 53302, .ret 0] 0 loc stk M) : Wq 265 cd_265 post 0 loc stk M := prefB_run ck_265 _ 0 (by decide +kernel) h
end
/-! StaticKernel.tryHalt(I)I -/
set_option maxRecDepth 100000 in
theorem ck_266 : chkM (mt 266) cd_266 = true := by decide +kernel
section
variable {post : Option AV → AMem → Prop} {loc : Lc} {stk : List AV} {M : AMem}
theorem b_266_0 (h : wpl (Wq 266 cd_266 post) post [.aload 0, .getfield 4915627, .invokevirtual 53014, .ifCond .eq 6, .iconst 10, .ret 0] 0 loc stk M) : Wq 266 cd_266 post 0 loc stk M := prefB_run ck_266 _ 0 (by decide +kernel) h
theorem b_266_6 (h : wpl (Wq 266 cd_266 post) post [.aload 0, .getfield 4915627, .iconst 80000, .iload 1, .iconst 127, .iand, .iadd, .invokevirtual 48934, .aload 0, .getfield 4915627, .invokevirtual 68374, .iconst 0, .ret 0] 6 loc stk M) : Wq 266 cd_266 post 6 loc stk M := prefB_run ck_266 _ 6 (by decide +kernel) h
end
/-! StaticKernel$Machine.goOff()V -/
set_option maxRecDepth 100000 in
theorem ck_267 : chkM (mt 267) cd_267 = true := by decide +kernel
section
variable {post : Option AV → AMem → Prop} {loc : Lc} {stk : List AV} {M : AMem}
theorem b_267_0 (h : wpl (Wq 267 cd_267 post) post [.aload 0, .iconst 0, .putfield 2409, .aload 0, .iconst (-1), .putfield 2412, .aload 0, .iconst 0, .putfield 2416, .aload 0, .iconst (-1), .putfield 2420, .aload 0, .iconst 0, .putfield 2428, .aload 0, .getfield 5736807, .iconst 0, .putfield 2808, .aload 0, .getfield 4098403, .invokevirtual 68629, .return_] 0 loc stk M) : Wq 267 cd_267 post 0 loc stk M := prefB_run ck_267 _ 0 (by decide +kernel) h
end
/-! StaticKernel$Plan.rest()V -/
set_option maxRecDepth 100000 in
theorem ck_268 : chkM (mt 268) cd_268 = true := by decide +kernel
section
variable {post : Option AV → AMem → Prop} {loc : Lc} {stk : List AV} {M : AMem}
theorem b_268_0 (h : wpl (Wq 268 cd_268 post) post [.iconst 0, .istore 1] 0 loc stk M) : Wq 268 cd_268 post 0 loc stk M := prefB_run ck_268 _ 0 (by decide +kernel) h
theorem b_268_2 (h : wpl (Wq 268 cd_268 post) post [.iload 1, .aload 0, .getfield 11771906003, .iconst 4, .iaload, .if_icmp .ge 15, .aload 0, .getfield 81191733215, .iload 1, .aaload, .invokevirtual 68888, .iinc 1 1, .goto 2] 2 loc stk M) : Wq 268 cd_268 post 2 loc stk M := prefB_run ck_268 _ 2 (by decide +kernel) h
theorem b_268_15 (h : wpl (Wq 268 cd_268 post) post [.iconst 0, .istore 1] 15 loc stk M) : Wq 268 cd_268 post 15 loc stk M := prefB_run ck_268 _ 15 (by decide +kernel) h
theorem b_268_17 (h : wpl (Wq 268 cd_268 post) post [.iload 1, .aload 0, .getfield 11771906003, .iconst 5, .iaload, .if_icmp .ge 30, .aload 0, .getfield 27505461219, .iload 1, .aaload, .invokevirtual 68888, .iinc 1 1, .goto 17] 17 loc stk M) : Wq 268 cd_268 post 17 loc stk M := prefB_run ck_268 _ 17 (by decide +kernel) h
theorem b_268_30 (h : wpl (Wq 268 cd_268 post) post [.iconst 0, .istore 1] 30 loc stk M) : Wq 268 cd_268 post 30 loc stk M := prefB_run ck_268 _ 30 (by decide +kernel) h
theorem b_268_32 (h : wpl (Wq 268 cd_268 post) post [.iload 1, .aload 0, .getfield 11771906003, .iconst 3, .iaload, .if_icmp .ge 46, .aload 0, .getfield 27506280423, .iload 1, .aaload, .iconst 0, .putfield 3620, .iinc 1 1, .goto 32] 32 loc stk M) : Wq 268 cd_268 post 32 loc stk M := prefB_run ck_268 _ 32 (by decide +kernel) h
theorem b_268_46 (h : wpl (Wq 268 cd_268 post) post [.iconst 0, .istore 1] 46 loc stk M) : Wq 268 cd_268 post 46 loc stk M := prefB_run ck_268 _ 46 (by decide +kernel) h
theorem b_268_48 (h : wpl (Wq 268 cd_268 post) post [.iload 1, .aload 0, .getfield 11771906003, .iconst 6, .iaload, .if_icmp .ge 62, .aload 0, .getfield 81194190827, .iload 1, .aaload, .iconst 0, .putfield 4025, .iinc 1 1, .goto 48] 48 loc stk M) : Wq 268 cd_268 post 48 loc stk M := prefB_run ck_268 _ 48 (by decide +kernel) h
theorem b_268_62 (h : wpl (Wq 268 cd_268 post) post [.return_] 62 loc stk M) : Wq 268 cd_268 post 62 loc stk M := prefB_run ck_268 _ 62 (by decide +kernel) h
end
/-! StaticKernel$Worker.rest()V -/
set_option maxRecDepth 100000 in
theorem ck_269 : chkM (mt 269) cd_269 = true := by decide +kernel
section
variable {post : Option AV → AMem → Prop} {loc : Lc} {stk : List AV} {M : AMem}
theorem b_269_0 (h : wpl (Wq 269 cd_269 post) post [.aload 0, .iconst 0, .putfield 3228, .aload 0, .iconst 0, .putfield 3233, .aload 0, .iconst 0, .putfield 3236, .aload 0, .iconst 0, .putfield 3240, .aload 0, .iconst 0, .putfield 3245, .aload 0, .iconst 0, .putfield 3249, .aload 0, .iconst 0, .putfield 3256, .return_] 0 loc stk M) : Wq 269 cd_269 post 0 loc stk M := prefB_run ck_269 _ 0 (by decide +kernel) h
end
/-! StaticKernel.tick(II)I -/
set_option maxRecDepth 100000 in
theorem ck_270 : chkM (mt 270) cd_270 = true := by decide +kernel
section
variable {post : Option AV → AMem → Prop} {loc : Lc} {stk : List AV} {M : AMem}
theorem b_270_0 (h : wpl (Wq 270 cd_270 post) post [.iconst (-1), .istore 3, .aload 0, .getfield 4915627, .getfield 2409, .ifCond .eq 23, .aload 0, .getfield 4096423, .iconst 3, .iload 1, .invokevirtual 43573, .ifCond .eq 23, .iload 2, .iconst 1, .if_icmp .lt 23, .iload 2, .iconst 1000, .if_icmp .gt 23, .aload 0, .iload 1, .iload 2, .invokevirtual 69425, .istore 3, .aload 0, .getfield 4915627, .invokevirtual 29462, .iload 3, .ret 0] 0 loc stk M) : Wq 270 cd_270 post 0 loc stk M := prefB_run ck_270 _ 0 (by decide +kernel) h
theorem b_270_23 (h : wpl (Wq 270 cd_270 post) post [.aload 0, .getfield 4915627, .invokevirtual 29462, .iload 3, .ret 0] 23 loc stk M) : Wq 270 cd_270 post 23 loc stk M := prefB_run ck_270 _ 23 (by decide +kernel) h
end
/-! StaticKernel.tickOrWait(II)I -/
set_option maxRecDepth 100000 in
theorem ck_271 : chkM (mt 271) cd_271 = true := by decide +kernel
section
variable {post : Option AV → AMem → Prop} {loc : Lc} {stk : List AV} {M : AMem}
theorem b_271_0 (h : wpl (Wq 271 cd_271 post) post [.aload 0, .getfield 4915627, .getfield 2416, .ifCond .ne 10, .aload 0, .getfield 4915627, .iload 1, .iload 2, .invokevirtual 65846, .ret 0] 0 loc stk M) : Wq 271 cd_271 post 0 loc stk M := prefB_run ck_271 _ 0 (by decide +kernel) h
theorem b_271_10 (h : wpl (Wq 271 cd_271 post) post [.aload 0, .getfield 4096423, .getfield 27506280423, .iload 1, .aaload, .astore 3, .aload 3, .aload 3, .getfield 3620, .iload 2, .iadd, .iconst 2000, .invokestatic 288, .putfield 3620, .iconst 0, .ret 0] 10 loc stk M) : Wq 271 cd_271 post 10 loc stk M := prefB_run ck_271 _ 10 (by decide +kernel) h
end
/-! StaticKernel.call(I)I -/
set_option maxRecDepth 100000 in
theorem ck_272 : chkM (mt 272) cd_272 = true := by decide +kernel
section
variable {post : Option AV → AMem → Prop} {loc : Lc} {stk : List AV} {M : AMem}
theorem b_272_0 (h : wpl (Wq 272 cd_272 post) post [.aload 0, .iload 1, .invokevirtual 69921, .istore 2, .aload 0, .getfield 4915627, .invokevirtual 50966, .aload 0, .getfield 4915627, .invokevirtual 29462, .iload 2, .ret 0] 0 loc stk M) : Wq 272 cd_272 post 0 loc stk M := prefB_run ck_272 _ 0 (by decide +kernel) h
end
/-! StaticKernel.tryCall(I)I -/
set_option maxRecDepth 100000 in
theorem ck_273 : chkM (mt 273) cd_273 = true := by decide +kernel
section
variable {post : Option AV → AMem → Prop} {loc : Lc} {stk : List AV} {M : AMem}
theorem b_273_0 (h : wpl (Wq 273 cd_273 post) post [.aload 0, .getfield 4915627, .getfield 2409, .ifCond .eq 10, .aload 0, .getfield 4096423, .iconst 5, .iload 1, .invokevirtual 43573, .ifCond .ne 12, .iconst (-1), .ret 0] 0 loc stk M) : Wq 273 cd_273 post 0 loc stk M := prefB_run ck_273 _ 0 (by decide +kernel) h
theorem b_273_10 (h : wpl (Wq 273 cd_273 post) post [.iconst (-1), .ret 0] 10 loc stk M) : Wq 273 cd_273 post 10 loc stk M := prefB_run ck_273 _ 10 (by decide +kernel) h
theorem b_273_12 (h : wpl (Wq 273 cd_273 post) post [.aload 0, .getfield 4096423, .getfield 27505461219, .iload 1, .aaload, .astore 2, .aload 2, .getfield 3249, .ifCond .eq 23, .iconst 1, .ret 0] 12 loc stk M) : Wq 273 cd_273 post 12 loc stk M := prefB_run ck_273 _ 12 (by decide +kernel) h
theorem b_273_23 (h : wpl (Wq 273 cd_273 post) post [.aload 2, .iconst 1, .putfield 3249, .iconst 0, .ret 0] 23 loc stk M) : Wq 273 cd_273 post 23 loc stk M := prefB_run ck_273 _ 23 (by decide +kernel) h
end
/-! StaticKernel.atWork()I -/
set_option maxRecDepth 100000 in
theorem ck_274 : chkM (mt 274) cd_274 = true := by decide +kernel
section
variable {post : Option AV → AMem → Prop} {loc : Lc} {stk : List AV} {M : AMem}
theorem b_274_0 (h : wpl (Wq 274 cd_274 post) post [.aload 0, .getfield 4915627, .invokevirtual 29462, .aload 0, .getfield 4915627, .getfield 2428, .ifCond .le 13, .iconst 100, .aload 0, .getfield 4915627, .invokevirtual 67606, .iadd, .goto 16] 0 loc stk M) : Wq 274 cd_274 post 0 loc stk M := prefB_run ck_274 _ 0 (by decide +kernel) h
theorem b_274_13 (h : wpl (Wq 274 cd_274 post) post [.aload 0, .getfield 4915627, .getfield 2420, .ret 0] 13 loc stk M) : Wq 274 cd_274 post 13 loc stk M := prefB_run ck_274 _ 13 (by decide +kernel) h
theorem b_274_16 (h : wpl (Wq 274 cd_274 post) post [.ret 0] 16 loc stk M) : Wq 274 cd_274 post 16 loc stk M := prefB_run ck_274 _ 16 (by decide +kernel) h
end
/-! StaticKernel.running()I -/
set_option maxRecDepth 100000 in
theorem ck_275 : chkM (mt 275) cd_275 = true := by decide +kernel
section
variable {post : Option AV → AMem → Prop} {loc : Lc} {stk : List AV} {M : AMem}
theorem b_275_0 (h : wpl (Wq 275 cd_275 post) post [.aload 0, .getfield 4915627, .getfield 2420, .ret 0] 0 loc stk M) : Wq 275 cd_275 post 0 loc stk M := prefB_run ck_275 _ 0 (by decide +kernel) h
end
/-! StaticKernel.row(II)I -/
set_option maxRecDepth 100000 in
theorem ck_276 : chkM (mt 276) cd_276 = true := by decide +kernel
section
variable {post : Option AV → AMem → Prop} {loc : Lc} {stk : List AV} {M : AMem}
theorem b_276_0 (h : wpl (Wq 276 cd_276 post) post [.aload 0, .getfield 4915627, .getfield 5736807, .iload 1, .iload 2, .invokevirtual 70967, .ret 0] 0 loc stk M) : Wq 276 cd_276 post 0 loc stk M := prefB_run ck_276 _ 0 (by decide +kernel) h
end
/-! StaticKernel$Rows.taskAt(II)I -/
set_option maxRecDepth 100000 in
theorem ck_277 : chkM (mt 277) cd_277 = true := by decide +kernel
section
variable {post : Option AV → AMem → Prop} {loc : Lc} {stk : List AV} {M : AMem}
theorem b_277_0 (h : wpl (Wq 277 cd_277 post) post [.iconst 0, .istore 3, .aload 0, .getfield 2808, .iconst 1, .isub, .istore 4] 0 loc stk M) : Wq 277 cd_277 post 0 loc stk M := prefB_run ck_277 _ 0 (by decide +kernel) h
theorem b_277_7 (h : wpl (Wq 277 cd_277 post) post [.iload 4, .ifCond .lt 26, .aload 0, .getfield 644285238003, .iload 4, .iaload, .iload 1, .if_icmp .ne 24, .iload 3, .iload 2, .if_icmp .ne 23, .aload 0, .getfield 644286057207, .iload 4, .iaload, .ret 0] 7 loc stk M) : Wq 277 cd_277 post 7 loc stk M := prefB_run ck_277 _ 7 (by decide +kernel) h
theorem b_277_23 (h : wpl (Wq 277 cd_277 post) post [.iinc 3 1, .iinc 4 (-1), .goto 7] 23 loc stk M) : Wq 277 cd_277 post 23 loc stk M := prefB_run ck_277 _ 23 (by decide +kernel) h
theorem b_277_24 (h : wpl (Wq 277 cd_277 post) post [.iinc 4 (-1), .goto 7] 24 loc stk M) : Wq 277 cd_277 post 24 loc stk M := prefB_run ck_277 _ 24 (by decide +kernel) h
theorem b_277_26 (h : wpl (Wq 277 cd_277 post) post [.iconst (-1), .ret 0] 26 loc stk M) : Wq 277 cd_277 post 26 loc stk M := prefB_run ck_277 _ 26 (by decide +kernel) h
end
/-! StaticKernel.count(I)I -/
set_option maxRecDepth 100000 in
theorem ck_278 : chkM (mt 278) cd_278 = true := by decide +kernel
section
variable {post : Option AV → AMem → Prop} {loc : Lc} {stk : List AV} {M : AMem}
theorem b_278_0 (h : wpl (Wq 278 cd_278 post) post [.iload 1, .tableswitch 41 0 8 #[2, 5, 13, 17, 21, 25, 29, 33, 37]] 0 loc stk M) : Wq 278 cd_278 post 0 loc stk M := prefB_run ck_278 _ 0 (by decide +kernel) h
theorem b_278_2 (h : wpl (Wq 278 cd_278 post) post [.aload 0, .getfield 404, .ret 0] 2 loc stk M) : Wq 278 cd_278 post 2 loc stk M := prefB_run ck_278 _ 2 (by decide +kernel) h
theorem b_278_5 (h : wpl (Wq 278 cd_278 post) post [.aload 0, .getfield 4915627, .getfield 2409, .ifCond .eq 11, .iconst 1, .goto 12] 5 loc stk M) : Wq 278 cd_278 post 5 loc stk M := prefB_run ck_278 _ 5 (by decide +kernel) h
theorem b_278_11 (h : wpl (Wq 278 cd_278 post) post [.iconst 0, .ret 0] 11 loc stk M) : Wq 278 cd_278 post 11 loc stk M := prefB_run ck_278 _ 11 (by decide +kernel) h
theorem b_278_12 (h : wpl (Wq 278 cd_278 post) post [.ret 0] 12 loc stk M) : Wq 278 cd_278 post 12 loc stk M := prefB_run ck_278 _ 12 (by decide +kernel) h
theorem b_278_13 (h : wpl (Wq 278 cd_278 post) post [.aload 0, .getfield 4915627, .getfield 2412, .ret 0] 13 loc stk M) : Wq 278 cd_278 post 13 loc stk M := prefB_run ck_278 _ 13 (by decide +kernel) h
theorem b_278_17 (h : wpl (Wq 278 cd_278 post) post [.aload 0, .getfield 4915627, .getfield 2416, .ret 0] 17 loc stk M) : Wq 278 cd_278 post 17 loc stk M := prefB_run ck_278 _ 17 (by decide +kernel) h
theorem b_278_21 (h : wpl (Wq 278 cd_278 post) post [.aload 0, .getfield 4915627, .getfield 2428, .ret 0] 21 loc stk M) : Wq 278 cd_278 post 21 loc stk M := prefB_run ck_278 _ 21 (by decide +kernel) h
theorem b_278_25 (h : wpl (Wq 278 cd_278 post) post [.aload 0, .getfield 4096423, .invokevirtual 71445, .ret 0] 25 loc stk M) : Wq 278 cd_278 post 25 loc stk M := prefB_run ck_278 _ 25 (by decide +kernel) h
theorem b_278_29 (h : wpl (Wq 278 cd_278 post) post [.aload 0, .getfield 4915627, .getfield 2436, .ret 0] 29 loc stk M) : Wq 278 cd_278 post 29 loc stk M := prefB_run ck_278 _ 29 (by decide +kernel) h
theorem b_278_33 (h : wpl (Wq 278 cd_278 post) post [.aload 0, .getfield 4915627, .getfield 2440, .ret 0] 33 loc stk M) : Wq 278 cd_278 post 33 loc stk M := prefB_run ck_278 _ 33 (by decide +kernel) h
theorem b_278_37 (h : wpl (Wq 278 cd_278 post) post [.aload 0, .getfield 4915627, .getfield 2444, .ret 0] 37 loc stk M) : Wq 278 cd_278 post 37 loc stk M := prefB_run ck_278 _ 37 (by decide +kernel) h
theorem b_278_41 (h : wpl (Wq 278 cd_278 post) post [.iconst (-1), .ret 0] 41 loc stk M) : Wq 278 cd_278 post 41 loc stk M := prefB_run ck_278 _ 41 (by decide +kernel) h
end
/-! StaticKernel$Plan.allRequests()I -/
set_option maxRecDepth 100000 in
theorem ck_279 : chkM (mt 279) cd_279 = true := by decide +kernel
section
variable {post : Option AV → AMem → Prop} {loc : Lc} {stk : List AV} {M : AMem}
theorem b_279_0 (h : wpl (Wq 279 cd_279 post) post [.iconst 0, .istore 1, .iconst 0, .istore 2] 0 loc stk M) : Wq 279 cd_279 post 0 loc stk M := prefB_run ck_279 _ 0 (by decide +kernel) h
theorem b_279_4 (h : wpl (Wq 279 cd_279 post) post [.iload 2, .aload 0, .getfield 11771906003, .iconst 4, .iaload, .if_icmp .ge 20, .iload 1, .aload 0, .getfield 81191733215, .iload 2, .aaload, .getfield 3228, .iadd, .istore 1, .iinc 2 1, .goto 4] 4 loc stk M) : Wq 279 cd_279 post 4 loc stk M := prefB_run ck_279 _ 4 (by decide +kernel) h
theorem b_279_20 (h : wpl (Wq 279 cd_279 post) post [.iload 1, .ret 0] 20 loc stk M) : Wq 279 cd_279 post 20 loc stk M := prefB_run ck_279 _ 20 (by decide +kernel) h
end
/-! StaticKernel.name(III)J -/
set_option maxRecDepth 100000 in
theorem ck_280 : chkM (mt 280) cd_280 = true := by decide +kernel
section
variable {post : Option AV → AMem → Prop} {loc : Lc} {stk : List AV} {M : AMem}
theorem b_280_0 (h : wpl (Wq 280 cd_280 post) post [.aload 0, .getfield 4915627, .invokevirtual 29462, .aload 0, .iload 1, .iload 2, .invokevirtual 71985, .iload 3, .ifCond .ge 13, .new 0, .dup, .invokespecial 0, .athrow] 0 loc stk M) : Wq 280 cd_280 post 0 loc stk M := prefB_run ck_280 _ 0 (by decide +kernel) h
theorem b_280_13 (h : wpl (Wq 280 cd_280 post) post [.aload 0, .getfield 4096423, .iload 1, .iload 2, .iload 3, .invokevirtual 72261, .lreturn] 13 loc stk M) : Wq 280 cd_280 post 13 loc stk M := prefB_run ck_280 _ 13 (by decide +kernel) h
end
/-! StaticKernel.mustHave(II)V -/
set_option maxRecDepth 100000 in
theorem ck_281 : chkM (mt 281) cd_281 = true := by decide +kernel
section
variable {post : Option AV → AMem → Prop} {loc : Lc} {stk : List AV} {M : AMem}
theorem b_281_0 (h : wpl (Wq 281 cd_281 post) post [.aload 0, .getfield 4096423, .iload 1, .iload 2, .invokevirtual 43573, .ifCond .ne 10, .new 0, .dup, .invokespecial 0, .athrow] 0 loc stk M) : Wq 281 cd_281 post 0 loc stk M := prefB_run ck_281 _ 0 (by decide +kernel) h
theorem b_281_10 (h : wpl (Wq 281 cd_281 post) post [.return_] 10 loc stk M) : Wq 281 cd_281 post 10 loc stk M := prefB_run ck_281 _ 10 (by decide +kernel) h
end
/-! StaticKernel$Plan.nameBytes(III)J -/
set_option maxRecDepth 100000 in
theorem ck_282 : chkM (mt 282) cd_282 = true := by decide +kernel
section
variable {post : Option AV → AMem → Prop} {loc : Lc} {stk : List AV} {M : AMem}
theorem b_282_0 (h : wpl (Wq 282 cd_282 post) post [.aload 0, .getfield 12401870807, .iload 1, .aaload, .iload 2, .laload, .lstore 4, .aload 0, .getfield 12403509211, .iload 1, .aaload, .iload 2, .laload, .lstore 6, .iload 3, .ifCond .ne 18, .lload 4, .lreturn] 0 loc stk M) : Wq 282 cd_282 post 0 loc stk M := prefB_run ck_282 _ 0 (by decide +kernel) h
theorem b_282_18 (h : wpl (Wq 282 cd_282 post) post [.iload 3, .iconst 8, .if_icmp .ge 35, .lload 4, .iconst 8, .iload 3, .imul, .lshl, .lload 6, .iconst 64, .iconst 8, .iload 3, .imul, .isub, .lushr, .lor, .lreturn] 18 loc stk M) : Wq 282 cd_282 post 18 loc stk M := prefB_run ck_282 _ 18 (by decide +kernel) h
theorem b_282_35 (h : wpl (Wq 282 cd_282 post) post [.iload 3, .iconst 12, .if_icmp .ge 46, .lload 6, .iconst 8, .iload 3, .iconst 8, .isub, .imul, .lshl, .goto 47] 35 loc stk M) : Wq 282 cd_282 post 35 loc stk M := prefB_run ck_282 _ 35 (by decide +kernel) h
theorem b_282_46 (h : wpl (Wq 282 cd_282 post) post [.ldc2_w 0, .lreturn] 46 loc stk M) : Wq 282 cd_282 post 46 loc stk M := prefB_run ck_282 _ 46 (by decide +kernel) h
theorem b_282_47 (h : wpl (Wq 282 cd_282 post) post [.lreturn] 47 loc stk M) : Wq 282 cd_282 post 47 loc stk M := prefB_run ck_282 _ 47 (by decide +kernel) h
end
/-! StaticKernel.task(II)I -/
set_option maxRecDepth 100000 in
theorem ck_283 : chkM (mt 283) cd_283 = true := by decide +kernel
section
variable {post : Option AV → AMem → Prop} {loc : Lc} {stk : List AV} {M : AMem}
theorem b_283_0 (h : wpl (Wq 283 cd_283 post) post [.aload 0, .iconst 4, .iload 1, .invokevirtual 71985, .aload 0, .getfield 4096423, .getfield 81191733215, .iload 1, .aaload, .astore 3, .iload 2, .tableswitch 48 0 6 #[12, 17, 20, 25, 35, 38, 41]] 0 loc stk M) : Wq 283 cd_283 post 0 loc stk M := prefB_run ck_283 _ 0 (by decide +kernel) h
theorem b_283_12 (h : wpl (Wq 283 cd_283 post) post [.aload 0, .getfield 4915627, .iload 1, .invokevirtual 72742, .ret 0] 12 loc stk M) : Wq 283 cd_283 post 12 loc stk M := prefB_run ck_283 _ 12 (by decide +kernel) h
theorem b_283_17 (h : wpl (Wq 283 cd_283 post) post [.aload 3, .getfield 3228, .ret 0] 17 loc stk M) : Wq 283 cd_283 post 17 loc stk M := prefB_run ck_283 _ 17 (by decide +kernel) h
theorem b_283_20 (h : wpl (Wq 283 cd_283 post) post [.aload 0, .getfield 4096423, .aload 3, .invokevirtual 30245, .ret 0] 20 loc stk M) : Wq 283 cd_283 post 20 loc stk M := prefB_run ck_283 _ 20 (by decide +kernel) h
theorem b_283_25 (h : wpl (Wq 283 cd_283 post) post [.aload 3, .getfield 3256, .aload 3, .getfield 3245, .ifCond .eq 32, .iconst 1, .goto 33] 25 loc stk M) : Wq 283 cd_283 post 25 loc stk M := prefB_run ck_283 _ 25 (by decide +kernel) h
theorem b_283_32 (h : wpl (Wq 283 cd_283 post) post [.iconst 0, .iadd, .ret 0] 32 loc stk M) : Wq 283 cd_283 post 32 loc stk M := prefB_run ck_283 _ 32 (by decide +kernel) h
theorem b_283_33 (h : wpl (Wq 283 cd_283 post) post [.iadd, .ret 0] 33 loc stk M) : Wq 283 cd_283 post 33 loc stk M := prefB_run ck_283 _ 33 (by decide +kernel) h
theorem b_283_35 (h : wpl (Wq 283 cd_283 post) post [.aload 3, .getfield 3200, .ret 0] 35 loc stk M) : Wq 283 cd_283 post 35 loc stk M := prefB_run ck_283 _ 35 (by decide +kernel) h
theorem b_283_38 (h : wpl (Wq 283 cd_283 post) post [.aload 3, .getfield 3208, .ret 0] 38 loc stk M) : Wq 283 cd_283 post 38 loc stk M := prefB_run ck_283 _ 38 (by decide +kernel) h
theorem b_283_41 (h : wpl (Wq 283 cd_283 post) post [.aload 3, .getfield 3205, .ifCond .eq 46, .iconst 1, .goto 47] 41 loc stk M) : Wq 283 cd_283 post 41 loc stk M := prefB_run ck_283 _ 41 (by decide +kernel) h
theorem b_283_46 (h : wpl (Wq 283 cd_283 post) post [.iconst 0, .ret 0] 46 loc stk M) : Wq 283 cd_283 post 46 loc stk M := prefB_run ck_283 _ 46 (by decide +kernel) h
theorem b_283_47 (h : wpl (Wq 283 cd_283 post) post [.ret 0] 47 loc stk M) : Wq 283 cd_283 post 47 loc stk M := prefB_run ck_283 _ 47 (by decide +kernel) h
theorem b_283_48 (h : wpl (Wq 283 cd_283 post) post [.iconst (-1), .ret 0] 48 loc stk M) : Wq 283 cd_283 post 48 loc stk M := prefB_run ck_283 _ 48 (by decide +kernel) h
end
/-! StaticKernel$Machine.stateOf(I)I -/
set_option maxRecDepth 100000 in
theorem ck_284 : chkM (mt 284) cd_284 = true := by decide +kernel
section
variable {post : Option AV → AMem → Prop} {loc : Lc} {stk : List AV} {M : AMem}
theorem b_284_0 (h : wpl (Wq 284 cd_284 post) post [.iload 1, .aload 0, .getfield 2420, .if_icmp .ne 6, .iconst 2, .ret 0] 0 loc stk M) : Wq 284 cd_284 post 0 loc stk M := prefB_run ck_284 _ 0 (by decide +kernel) h
theorem b_284_6 (h : wpl (Wq 284 cd_284 post) post [.aload 0, .getfield 4098403, .getfield 81191733215, .iload 1, .aaload, .getfield 3233, .ifCond .eq 15, .iconst 3, .ret 0] 6 loc stk M) : Wq 284 cd_284 post 6 loc stk M := prefB_run ck_284 _ 6 (by decide +kernel) h
theorem b_284_15 (h : wpl (Wq 284 cd_284 post) post [.aload 0, .getfield 4098403, .getfield 81191733215, .iload 1, .aaload, .getfield 3228, .ifCond .le 24, .iconst 1, .goto 25] 15 loc stk M) : Wq 284 cd_284 post 15 loc stk M := prefB_run ck_284 _ 15 (by decide +kernel) h
theorem b_284_24 (h : wpl (Wq 284 cd_284 post) post [.iconst 0, .ret 0] 24 loc stk M) : Wq 284 cd_284 post 24 loc stk M := prefB_run ck_284 _ 24 (by decide +kernel) h
theorem b_284_25 (h : wpl (Wq 284 cd_284 post) post [.ret 0] 25 loc stk M) : Wq 284 cd_284 post 25 loc stk M := prefB_run ck_284 _ 25 (by decide +kernel) h
end
/-! StaticKernel.bits(II)J -/
set_option maxRecDepth 100000 in
theorem ck_285 : chkM (mt 285) cd_285 = true := by decide +kernel
section
variable {post : Option AV → AMem → Prop} {loc : Lc} {stk : List AV} {M : AMem}
theorem b_285_0 (h : wpl (Wq 285 cd_285 post) post [.aload 0, .iconst 4, .iload 1, .invokevirtual 71985, .aload 0, .getfield 4096423, .getfield 81191733215, .iload 1, .aaload, .astore 3, .iload 2, .tableswitch 24 0 2 #[12, 16, 20]] 0 loc stk M) : Wq 285 cd_285 post 0 loc stk M := prefB_run ck_285 _ 0 (by decide +kernel) h
theorem b_285_12 (h : wpl (Wq 285 cd_285 post) post [.aload 3, .getfield 3212, .invokestatic 61200, .lreturn] 12 loc stk M) : Wq 285 cd_285 post 12 loc stk M := prefB_run ck_285 _ 12 (by decide +kernel) h
theorem b_285_16 (h : wpl (Wq 285 cd_285 post) post [.aload 3, .getfield 3240, .invokestatic 61200, .lreturn] 16 loc stk M) : Wq 285 cd_285 post 16 loc stk M := prefB_run ck_285 _ 16 (by decide +kernel) h
theorem b_285_20 (h : wpl (Wq 285 cd_285 post) post [.aload 3, .getfield 3236, .invokestatic 61200, .lreturn] 20 loc stk M) : Wq 285 cd_285 post 20 loc stk M := prefB_run ck_285 _ 20 (by decide +kernel) h
theorem b_285_24 (h : wpl (Wq 285 cd_285 post) post [.ldc2_w 0, .lreturn] 24 loc stk M) : Wq 285 cd_285 post 24 loc stk M := prefB_run ck_285 _ 24 (by decide +kernel) h
end
/-! StaticKernel.resource(II)I -/
set_option maxRecDepth 100000 in
theorem ck_286 : chkM (mt 286) cd_286 = true := by decide +kernel
section
variable {post : Option AV → AMem → Prop} {loc : Lc} {stk : List AV} {M : AMem}
theorem b_286_0 (h : wpl (Wq 286 cd_286 post) post [.aload 0, .iconst 2, .iload 1, .invokevirtual 71985, .iload 2, .tableswitch 33 0 3 #[6, 12, 17, 23]] 0 loc stk M) : Wq 286 cd_286 post 0 loc stk M := prefB_run ck_286 _ 0 (by decide +kernel) h
theorem b_286_6 (h : wpl (Wq 286 cd_286 post) post [.aload 0, .getfield 4096423, .getfield 53722318831, .iload 1, .iaload, .ret 0] 6 loc stk M) : Wq 286 cd_286 post 6 loc stk M := prefB_run ck_286 _ 6 (by decide +kernel) h
theorem b_286_12 (h : wpl (Wq 286 cd_286 post) post [.aload 0, .getfield 4096423, .iload 1, .invokevirtual 57125, .ret 0] 12 loc stk M) : Wq 286 cd_286 post 12 loc stk M := prefB_run ck_286 _ 12 (by decide +kernel) h
theorem b_286_17 (h : wpl (Wq 286 cd_286 post) post [.aload 0, .getfield 4096423, .getfield 53723138035, .iload 1, .iaload, .ret 0] 17 loc stk M) : Wq 286 cd_286 post 17 loc stk M := prefB_run ck_286 _ 17 (by decide +kernel) h
theorem b_286_23 (h : wpl (Wq 286 cd_286 post) post [.aload 0, .getfield 4096423, .getfield 53933672439, .iload 1, .baload, .ifCond .eq 31, .iconst 1, .goto 32] 23 loc stk M) : Wq 286 cd_286 post 23 loc stk M := prefB_run ck_286 _ 23 (by decide +kernel) h
theorem b_286_31 (h : wpl (Wq 286 cd_286 post) post [.iconst 0, .ret 0] 31 loc stk M) : Wq 286 cd_286 post 31 loc stk M := prefB_run ck_286 _ 31 (by decide +kernel) h
theorem b_286_32 (h : wpl (Wq 286 cd_286 post) post [.ret 0] 32 loc stk M) : Wq 286 cd_286 post 32 loc stk M := prefB_run ck_286 _ 32 (by decide +kernel) h
theorem b_286_33 (h : wpl (Wq 286 cd_286 post) post [.iconst (-1), .ret 0] 33 loc stk M) : Wq 286 cd_286 post 33 loc stk M := prefB_run ck_286 _ 33 (by decide +kernel) h
end
/-! StaticKernel.isr(II)I -/
set_option maxRecDepth 100000 in
theorem ck_287 : chkM (mt 287) cd_287 = true := by decide +kernel
section
variable {post : Option AV → AMem → Prop} {loc : Lc} {stk : List AV} {M : AMem}
theorem b_287_0 (h : wpl (Wq 287 cd_287 post) post [.aload 0, .iconst 5, .iload 1, .invokevirtual 71985, .aload 0, .getfield 4096423, .getfield 27505461219, .iload 1, .aaload, .astore 3, .iload 2, .tableswitch 29 0 2 #[12, 17, 22]] 0 loc stk M) : Wq 287 cd_287 post 0 loc stk M := prefB_run ck_287 _ 0 (by decide +kernel) h
theorem b_287_12 (h : wpl (Wq 287 cd_287 post) post [.aload 0, .getfield 4096423, .aload 3, .invokevirtual 30245, .ret 0] 12 loc stk M) : Wq 287 cd_287 post 12 loc stk M := prefB_run ck_287 _ 12 (by decide +kernel) h
theorem b_287_17 (h : wpl (Wq 287 cd_287 post) post [.aload 0, .getfield 4915627, .iload 1, .invokevirtual 73766, .ret 0] 17 loc stk M) : Wq 287 cd_287 post 17 loc stk M := prefB_run ck_287 _ 17 (by decide +kernel) h
theorem b_287_22 (h : wpl (Wq 287 cd_287 post) post [.aload 3, .getfield 3249, .ifCond .eq 27, .iconst 1, .goto 28] 22 loc stk M) : Wq 287 cd_287 post 22 loc stk M := prefB_run ck_287 _ 22 (by decide +kernel) h
theorem b_287_27 (h : wpl (Wq 287 cd_287 post) post [.iconst 0, .ret 0] 27 loc stk M) : Wq 287 cd_287 post 27 loc stk M := prefB_run ck_287 _ 27 (by decide +kernel) h
theorem b_287_28 (h : wpl (Wq 287 cd_287 post) post [.ret 0] 28 loc stk M) : Wq 287 cd_287 post 28 loc stk M := prefB_run ck_287 _ 28 (by decide +kernel) h
theorem b_287_29 (h : wpl (Wq 287 cd_287 post) post [.iconst (-1), .ret 0] 29 loc stk M) : Wq 287 cd_287 post 29 loc stk M := prefB_run ck_287 _ 29 (by decide +kernel) h
end
/-! StaticKernel$Machine.placeAmongBegun(I)I -/
set_option maxRecDepth 100000 in
theorem ck_288 : chkM (mt 288) cd_288 = true := by decide +kernel
section
variable {post : Option AV → AMem → Prop} {loc : Lc} {stk : List AV} {M : AMem}
theorem b_288_0 (h : wpl (Wq 288 cd_288 post) post [.iconst 0, .istore 2] 0 loc stk M) : Wq 288 cd_288 post 0 loc stk M := prefB_run ck_288 _ 0 (by decide +kernel) h
theorem b_288_2 (h : wpl (Wq 288 cd_288 post) post [.iload 2, .aload 0, .getfield 2428, .if_icmp .ge 16, .aload 0, .getfield 26882050427, .iload 2, .iaload, .iload 1, .if_icmp .ne 14, .iload 2, .ret 0] 2 loc stk M) : Wq 288 cd_288 post 2 loc stk M := prefB_run ck_288 _ 2 (by decide +kernel) h
theorem b_288_14 (h : wpl (Wq 288 cd_288 post) post [.iinc 2 1, .goto 2] 14 loc stk M) : Wq 288 cd_288 post 14 loc stk M := prefB_run ck_288 _ 14 (by decide +kernel) h
theorem b_288_16 (h : wpl (Wq 288 cd_288 post) post [.iconst (-1), .ret 0] 16 loc stk M) : Wq 288 cd_288 post 16 loc stk M := prefB_run ck_288 _ 16 (by decide +kernel) h
end
/-! StaticKernel.counter(II)I -/
set_option maxRecDepth 100000 in
theorem ck_289 : chkM (mt 289) cd_289 = true := by decide +kernel
section
variable {post : Option AV → AMem → Prop} {loc : Lc} {stk : List AV} {M : AMem}
theorem b_289_0 (h : wpl (Wq 289 cd_289 post) post [.aload 0, .iconst 3, .iload 1, .invokevirtual 71985, .aload 0, .getfield 4096423, .getfield 27506280423, .iload 1, .aaload, .astore 3, .iload 2, .tableswitch 30 0 5 #[12, 15, 18, 21, 24, 27]] 0 loc stk M) : Wq 289 cd_289 post 0 loc stk M := prefB_run ck_289 _ 0 (by decide +kernel) h
theorem b_289_12 (h : wpl (Wq 289 cd_289 post) post [.aload 3, .getfield 3612, .ret 0] 12 loc stk M) : Wq 289 cd_289 post 12 loc stk M := prefB_run ck_289 _ 12 (by decide +kernel) h
theorem b_289_15 (h : wpl (Wq 289 cd_289 post) post [.aload 3, .getfield 3616, .ret 0] 15 loc stk M) : Wq 289 cd_289 post 15 loc stk M := prefB_run ck_289 _ 15 (by decide +kernel) h
theorem b_289_18 (h : wpl (Wq 289 cd_289 post) post [.aload 3, .getfield 3620, .ret 0] 18 loc stk M) : Wq 289 cd_289 post 18 loc stk M := prefB_run ck_289 _ 18 (by decide +kernel) h
theorem b_289_21 (h : wpl (Wq 289 cd_289 post) post [.aload 3, .getfield 3600, .ret 0] 21 loc stk M) : Wq 289 cd_289 post 21 loc stk M := prefB_run ck_289 _ 21 (by decide +kernel) h
theorem b_289_24 (h : wpl (Wq 289 cd_289 post) post [.aload 3, .getfield 3604, .ret 0] 24 loc stk M) : Wq 289 cd_289 post 24 loc stk M := prefB_run ck_289 _ 24 (by decide +kernel) h
theorem b_289_27 (h : wpl (Wq 289 cd_289 post) post [.aload 3, .getfield 3608, .ret 0] 27 loc stk M) : Wq 289 cd_289 post 27 loc stk M := prefB_run ck_289 _ 27 (by decide +kernel) h
theorem b_289_30 (h : wpl (Wq 289 cd_289 post) post [.iconst (-1), .ret 0] 30 loc stk M) : Wq 289 cd_289 post 30 loc stk M := prefB_run ck_289 _ 30 (by decide +kernel) h
end
/-! StaticKernel.alarm(II)I -/
set_option maxRecDepth 100000 in
theorem ck_290 : chkM (mt 290) cd_290 = true := by decide +kernel
section
variable {post : Option AV → AMem → Prop} {loc : Lc} {stk : List AV} {M : AMem}
theorem b_290_0 (h : wpl (Wq 290 cd_290 post) post [.aload 0, .iconst 6, .iload 1, .invokevirtual 71985, .aload 0, .getfield 4096423, .getfield 81194190827, .iload 1, .aaload, .astore 3, .iload 2, .tableswitch 39 0 4 #[12, 22, 30, 33, 36]] 0 loc stk M) : Wq 290 cd_290 post 0 loc stk M := prefB_run ck_290 _ 0 (by decide +kernel) h
theorem b_290_12 (h : wpl (Wq 290 cd_290 post) post [.aload 3, .getfield 4025, .ifCond .eq 20, .aload 0, .getfield 4096423, .iload 1, .invokevirtual 64037, .goto 21] 12 loc stk M) : Wq 290 cd_290 post 12 loc stk M := prefB_run ck_290 _ 12 (by decide +kernel) h
theorem b_290_20 (h : wpl (Wq 290 cd_290 post) post [.iconst (-1), .ret 0] 20 loc stk M) : Wq 290 cd_290 post 20 loc stk M := prefB_run ck_290 _ 20 (by decide +kernel) h
theorem b_290_21 (h : wpl (Wq 290 cd_290 post) post [.ret 0] 21 loc stk M) : Wq 290 cd_290 post 21 loc stk M := prefB_run ck_290 _ 21 (by decide +kernel) h
theorem b_290_22 (h : wpl (Wq 290 cd_290 post) post [.aload 3, .getfield 4025, .ifCond .eq 28, .aload 3, .getfield 4032, .goto 29] 22 loc stk M) : Wq 290 cd_290 post 22 loc stk M := prefB_run ck_290 _ 22 (by decide +kernel) h
theorem b_290_28 (h : wpl (Wq 290 cd_290 post) post [.iconst (-1), .ret 0] 28 loc stk M) : Wq 290 cd_290 post 28 loc stk M := prefB_run ck_290 _ 28 (by decide +kernel) h
theorem b_290_29 (h : wpl (Wq 290 cd_290 post) post [.ret 0] 29 loc stk M) : Wq 290 cd_290 post 29 loc stk M := prefB_run ck_290 _ 29 (by decide +kernel) h
theorem b_290_30 (h : wpl (Wq 290 cd_290 post) post [.aload 3, .getfield 4000, .ret 0] 30 loc stk M) : Wq 290 cd_290 post 30 loc stk M := prefB_run ck_290 _ 30 (by decide +kernel) h
theorem b_290_33 (h : wpl (Wq 290 cd_290 post) post [.aload 3, .getfield 4004, .ret 0] 33 loc stk M) : Wq 290 cd_290 post 33 loc stk M := prefB_run ck_290 _ 33 (by decide +kernel) h
theorem b_290_36 (h : wpl (Wq 290 cd_290 post) post [.aload 3, .getfield 4008, .ret 0] 36 loc stk M) : Wq 290 cd_290 post 36 loc stk M := prefB_run ck_290 _ 36 (by decide +kernel) h
theorem b_290_39 (h : wpl (Wq 290 cd_290 post) post [.iconst (-1), .ret 0] 39 loc stk M) : Wq 290 cd_290 post 39 loc stk M := prefB_run ck_290 _ 39 (by decide +kernel) h
end
/-! StaticKernel.note(I)I -/
set_option maxRecDepth 100000 in
theorem ck_291 : chkM (mt 291) cd_291 = true := by decide +kernel
section
variable {post : Option AV → AMem → Prop} {loc : Lc} {stk : List AV} {M : AMem}
theorem b_291_0 (h : wpl (Wq 291 cd_291 post) post [.iload 1, .ifCond .lt 7, .iload 1, .aload 0, .getfield 4915627, .invokevirtual 74774, .if_icmp .lt 11, .new 0, .dup, .invokespecial 0, .athrow] 0 loc stk M) : Wq 291 cd_291 post 0 loc stk M := prefB_run ck_291 _ 0 (by decide +kernel) h
theorem b_291_7 (h : wpl (Wq 291 cd_291 post) post [.new 0, .dup, .invokespecial 0, .athrow] 7 loc stk M) : Wq 291 cd_291 post 7 loc stk M := prefB_run ck_291 _ 7 (by decide +kernel) h
theorem b_291_11 (h : wpl (Wq 291 cd_291 post) post [.aload 0, .getfield 4915627, .iload 1, .invokevirtual 75046, .ret 0] 11 loc stk M) : Wq 291 cd_291 post 11 loc stk M := prefB_run ck_291 _ 11 (by decide +kernel) h
end
/-! StaticKernel$Machine.keptNotes()I -/
set_option maxRecDepth 100000 in
theorem ck_292 : chkM (mt 292) cd_292 = true := by decide +kernel
section
variable {post : Option AV → AMem → Prop} {loc : Lc} {stk : List AV} {M : AMem}
theorem b_292_0 (h : wpl (Wq 292 cd_292 post) post [.aload 0, .getfield 2436, .iconst 500, .invokestatic 288, .ret 0] 0 loc stk M) : Wq 292 cd_292 post 0 loc stk M := prefB_run ck_292 _ 0 (by decide +kernel) h
end
/-! StaticKernel$Machine.latestNote(I)I -/
set_option maxRecDepth 100000 in
theorem ck_293 : chkM (mt 293) cd_293 = true := by decide +kernel
section
variable {post : Option AV → AMem → Prop} {loc : Lc} {stk : List AV} {M : AMem}
theorem b_293_0 (h : wpl (Wq 293 cd_293 post) post [.aload 0, .getfield 838900124035, .aload 0, .getfield 2436, .iconst 1, .isub, .iload 1, .isub, .iconst 500, .irem, .iaload, .ret 0] 0 loc stk M) : Wq 293 cd_293 post 0 loc stk M := prefB_run ck_293 _ 0 (by decide +kernel) h
end
