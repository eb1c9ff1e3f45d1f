/-! StaticKernel$Outline.find(ILStaticKernel$Role;)I -/
set_option maxRecDepth 100000 in
theorem ck_159 : chkM (mt 159) cd_159 = true := by decide +kernel
section
variable {post : Option AV → AMem → Prop} {loc : Lc} {stk : List AV} {M : AMem}
theorem b_159_0 (h : wpl (Wq 159 cd_159 post) post [.iload 1, .iconst (-1), .if_icmp .ne 5, .iconst (-1), .ret 0] 0 loc stk M) : Wq 159 cd_159 post 0 loc stk M := prefB_run ck_159 _ 0 (by decide +kernel) h
theorem b_159_5 (h : wpl (Wq 159 cd_159 post) post [.aload 0, .getfield 1119065703627, .iload 1, .iaload, .istore 3] 5 loc stk M) : Wq 159 cd_159 post 5 loc stk M := prefB_run ck_159 _ 5 (by decide +kernel) h
theorem b_159_10 (h : wpl (Wq 159 cd_159 post) post [.iload 3, .aload 0, .getfield 1119066522831, .iload 1, .iaload, .if_icmp .ge 26, .aload 0, .getfield 6713214567607, .iload 3, .aaload, .aload 2, .if_acmp .ne 24, .iload 3, .ret 0] 10 loc stk M) : Wq 159 cd_159 post 10 loc stk M := prefB_run ck_159 _ 10 (by decide +kernel) h
theorem b_159_24 (h : wpl (Wq 159 cd_159 post) post [.iinc 3 1, .goto 10] 24 loc stk M) : Wq 159 cd_159 post 24 loc stk M := prefB_run ck_159 _ 24 (by decide +kernel) h
theorem b_159_26 (h : wpl (Wq 159 cd_159 post) post [.iconst (-1), .ret 0] 26 loc stk M) : Wq 159 cd_159 post 26 loc stk M := prefB_run ck_159 _ 26 (by decide +kernel) h
end
/-! StaticKernel$Faults.ofCounter(ILStaticKernel$Role;)I -/
set_option maxRecDepth 100000 in
theorem ck_160 : chkM (mt 160) cd_160 = true := by decide +kernel
section
variable {post : Option AV → AMem → Prop} {loc : Lc} {stk : List AV} {M : AMem}
theorem b_160_0 (h : wpl (Wq 160 cd_160 post) post [.aload 0, .getfield 2459203, .aload 0, .getfield 2459203, .iload 1, .getstatic 837, .invokevirtual 41267, .aload 2, .iconst 0, .invokevirtual 40515, .ret 0] 0 loc stk M) : Wq 160 cd_160 post 0 loc stk M := prefB_run ck_160 _ 0 (by decide +kernel) h
end
/-! StaticKernel$Outline.itemOf(ILStaticKernel$Role;)I -/
set_option maxRecDepth 100000 in
theorem ck_161 : chkM (mt 161) cd_161 = true := by decide +kernel
section
variable {post : Option AV → AMem → Prop} {loc : Lc} {stk : List AV} {M : AMem}
theorem b_161_0 (h : wpl (Wq 161 cd_161 post) post [.aload 0, .iload 1, .aload 2, .invokevirtual 40755, .istore 3, .iload 3, .iconst (-1), .if_icmp .ne 10, .iconst (-1), .goto 14] 0 loc stk M) : Wq 161 cd_161 post 0 loc stk M := prefB_run ck_161 _ 0 (by decide +kernel) h
theorem b_161_10 (h : wpl (Wq 161 cd_161 post) post [.aload 0, .getfield 6712587060415, .iload 3, .iaload, .ret 0] 10 loc stk M) : Wq 161 cd_161 post 10 loc stk M := prefB_run ck_161 _ 10 (by decide +kernel) h
theorem b_161_14 (h : wpl (Wq 161 cd_161 post) post [.ret 0] 14 loc stk M) : Wq 161 cd_161 post 14 loc stk M := prefB_run ck_161 _ 14 (by decide +kernel) h
end
/-! StaticKernel$Faults.breaksRule(I)Z -/
set_option maxRecDepth 100000 in
theorem ck_162 : chkM (mt 162) cd_162 = true := by decide +kernel
section
variable {post : Option AV → AMem → Prop} {loc : Lc} {stk : List AV} {M : AMem}
theorem b_162_0 (h : wpl (Wq 162 cd_162 post) post [.aload 0, .getfield 2459203, .getfield 6712586241211, .iload 1, .iaload, .istore 2, .aload 0, .getfield 2459203, .getfield 6712587060415, .iload 1, .iaload, .istore 3, .getstatic 2498240, .aload 0, .getfield 2459203, .getfield 6713214567607, .iload 1, .aaload, .checkcast 13, .iaload, .lookupswitch 83 #[(4, 38), (7, 21), (14, 58), (15, 70)]] 0 loc stk M) : Wq 162 cd_162 post 0 loc stk M := prefB_run ck_162 _ 0 (by decide +kernel) h
theorem b_162_21 (h : wpl (Wq 162 cd_162 post) post [.aload 0, .getfield 1640007, .getfield 6712582964011, .iload 1, .iaload, .iconst 1, .if_icmp .le 36, .aload 0, .getfield 2459203, .iload 2, .getstatic 797, .invokevirtual 41779, .ifCond .eq 36, .iconst 1, .goto 37] 21 loc stk M) : Wq 162 cd_162 post 21 loc stk M := prefB_run ck_162 _ 21 (by decide +kernel) h
theorem b_162_36 (h : wpl (Wq 162 cd_162 post) post [.iconst 0, .ret 1] 36 loc stk M) : Wq 162 cd_162 post 36 loc stk M := prefB_run ck_162 _ 36 (by decide +kernel) h
theorem b_162_37 (h : wpl (Wq 162 cd_162 post) post [.ret 1] 37 loc stk M) : Wq 162 cd_162 post 37 loc stk M := prefB_run ck_162 _ 37 (by decide +kernel) h
theorem b_162_38 (h : wpl (Wq 162 cd_162 post) post [.aload 0, .iload 3, .invokevirtual 42020, .ifCond .eq 56, .aload 0, .getfield 2459203, .getfield 1119064065219, .iload 2, .iaload, .iconst 5, .if_icmp .eq 54, .aload 0, .iload 2, .iload 1, .invokevirtual 42292, .ifCond .eq 56, .iconst 1, .goto 57] 38 loc stk M) : Wq 162 cd_162 post 38 loc stk M := prefB_run ck_162 _ 38 (by decide +kernel) h
theorem b_162_54 (h : wpl (Wq 162 cd_162 post) post [.iconst 1, .goto 57] 54 loc stk M) : Wq 162 cd_162 post 54 loc stk M := prefB_run ck_162 _ 54 (by decide +kernel) h
theorem b_162_56 (h : wpl (Wq 162 cd_162 post) post [.iconst 0, .ret 1] 56 loc stk M) : Wq 162 cd_162 post 56 loc stk M := prefB_run ck_162 _ 56 (by decide +kernel) h
theorem b_162_57 (h : wpl (Wq 162 cd_162 post) post [.ret 1] 57 loc stk M) : Wq 162 cd_162 post 57 loc stk M := prefB_run ck_162 _ 57 (by decide +kernel) h
theorem b_162_58 (h : wpl (Wq 162 cd_162 post) post [.aload 0, .iload 3, .invokevirtual 42020, .ifCond .ne 66, .aload 0, .iload 3, .invokevirtual 42532, .ifCond .eq 68, .iconst 1, .goto 69] 58 loc stk M) : Wq 162 cd_162 post 58 loc stk M := prefB_run ck_162 _ 58 (by decide +kernel) h
theorem b_162_66 (h : wpl (Wq 162 cd_162 post) post [.iconst 1, .goto 69] 66 loc stk M) : Wq 162 cd_162 post 66 loc stk M := prefB_run ck_162 _ 66 (by decide +kernel) h
theorem b_162_68 (h : wpl (Wq 162 cd_162 post) post [.iconst 0, .ret 1] 68 loc stk M) : Wq 162 cd_162 post 68 loc stk M := prefB_run ck_162 _ 68 (by decide +kernel) h
theorem b_162_69 (h : wpl (Wq 162 cd_162 post) post [.ret 1] 69 loc stk M) : Wq 162 cd_162 post 69 loc stk M := prefB_run ck_162 _ 69 (by decide +kernel) h
theorem b_162_70 (h : wpl (Wq 162 cd_162 post) post [.aload 0, .aload 0, .getfield 2459203, .iload 2, .getstatic 839, .invokevirtual 41267, .iload 3, .invokevirtual 42804, .ifCond .ne 81, .iconst 1, .goto 82] 70 loc stk M) : Wq 162 cd_162 post 70 loc stk M := prefB_run ck_162 _ 70 (by decide +kernel) h
theorem b_162_81 (h : wpl (Wq 162 cd_162 post) post [.iconst 0, .ret 1] 81 loc stk M) : Wq 162 cd_162 post 81 loc stk M := prefB_run ck_162 _ 81 (by decide +kernel) h
theorem b_162_82 (h : wpl (Wq 162 cd_162 post) post [.ret 1] 82 loc stk M) : Wq 162 cd_162 post 82 loc stk M := prefB_run ck_162 _ 82 (by decide +kernel) h
theorem b_162_83 (h : wpl (Wq 162 cd_162 post) post [.iconst 0, .ret 1] 83 loc stk M) : Wq 162 cd_162 post 83 loc stk M := prefB_run ck_162 _ 83 (by decide +kernel) h
end
/-! StaticKernel$Outline.says(ILStaticKernel$Kind;)Z -/
set_option maxRecDepth 100000 in
theorem ck_163 : chkM (mt 163) cd_163 = true := by decide +kernel
section
variable {post : Option AV → AMem → Prop} {loc : Lc} {stk : List AV} {M : AMem}
theorem b_163_0 (h : wpl (Wq 163 cd_163 post) post [.iload 1, .iconst (-1), .if_icmp .ne 5, .iconst 0, .ret 1] 0 loc stk M) : Wq 163 cd_163 post 0 loc stk M := prefB_run ck_163 _ 0 (by decide +kernel) h
theorem b_163_5 (h : wpl (Wq 163 cd_163 post) post [.aload 0, .getfield 1119065703627, .iload 1, .iaload, .istore 3] 5 loc stk M) : Wq 163 cd_163 post 5 loc stk M := prefB_run ck_163 _ 5 (by decide +kernel) h
theorem b_163_10 (h : wpl (Wq 163 cd_163 post) post [.iload 3, .aload 0, .getfield 1119066522831, .iload 1, .iaload, .if_icmp .ge 27, .aload 0, .getfield 1639603, .getfield 6713210471203, .iload 3, .aaload, .aload 2, .if_acmp .ne 25, .iconst 1, .ret 1] 10 loc stk M) : Wq 163 cd_163 post 10 loc stk M := prefB_run ck_163 _ 10 (by decide +kernel) h
theorem b_163_25 (h : wpl (Wq 163 cd_163 post) post [.iinc 3 1, .goto 10] 25 loc stk M) : Wq 163 cd_163 post 25 loc stk M := prefB_run ck_163 _ 25 (by decide +kernel) h
theorem b_163_27 (h : wpl (Wq 163 cd_163 post) post [.iconst 0, .ret 1] 27 loc stk M) : Wq 163 cd_163 post 27 loc stk M := prefB_run ck_163 _ 27 (by decide +kernel) h
end
/-! StaticKernel$Faults.isInternal(I)Z -/
set_option maxRecDepth 100000 in
theorem ck_164 : chkM (mt 164) cd_164 = true := by decide +kernel
section
variable {post : Option AV → AMem → Prop} {loc : Lc} {stk : List AV} {M : AMem}
theorem b_164_0 (h : wpl (Wq 164 cd_164 post) post [.aload 0, .getfield 2459203, .iload 1, .getstatic 776, .invokevirtual 41779, .ret 1] 0 loc stk M) : Wq 164 cd_164 post 0 loc stk M := prefB_run ck_164 _ 0 (by decide +kernel) h
end
/-! StaticKernel$Faults.isInternalAhead(II)Z -/
set_option maxRecDepth 100000 in
theorem ck_165 : chkM (mt 165) cd_165 = true := by decide +kernel
section
variable {post : Option AV → AMem → Prop} {loc : Lc} {stk : List AV} {M : AMem}
theorem b_165_0 (h : wpl (Wq 165 cd_165 post) post [.aload 0, .getfield 2459203, .getfield 1119065703627, .iload 1, .iaload, .istore 3] 0 loc stk M) : Wq 165 cd_165 post 0 loc stk M := prefB_run ck_165 _ 0 (by decide +kernel) h
theorem b_165_6 (h : wpl (Wq 165 cd_165 post) post [.iload 3, .iload 2, .if_icmp .ge 28, .aload 0, .getfield 2459203, .getfield 6713214567607, .iload 3, .aaload, .getstatic 836, .if_acmp .ne 26, .aload 0, .aload 0, .getfield 2459203, .getfield 6712587060415, .iload 3, .iaload, .invokevirtual 42020, .ifCond .eq 26, .iconst 1, .ret 1] 6 loc stk M) : Wq 165 cd_165 post 6 loc stk M := prefB_run ck_165 _ 6 (by decide +kernel) h
theorem b_165_26 (h : wpl (Wq 165 cd_165 post) post [.iinc 3 1, .goto 6] 26 loc stk M) : Wq 165 cd_165 post 26 loc stk M := prefB_run ck_165 _ 26 (by decide +kernel) h
theorem b_165_28 (h : wpl (Wq 165 cd_165 post) post [.iconst 0, .ret 1] 28 loc stk M) : Wq 165 cd_165 post 28 loc stk M := prefB_run ck_165 _ 28 (by decide +kernel) h
end
/-! StaticKernel$Faults.isEndless(I)Z -/
set_option maxRecDepth 100000 in
theorem ck_166 : chkM (mt 166) cd_166 = true := by decide +kernel
section
variable {post : Option AV → AMem → Prop} {loc : Lc} {stk : List AV} {M : AMem}
theorem b_166_0 (h : wpl (Wq 166 cd_166 post) post [.iload 1, .istore 2, .iconst 0, .istore 3] 0 loc stk M) : Wq 166 cd_166 post 0 loc stk M := prefB_run ck_166 _ 0 (by decide +kernel) h
theorem b_166_4 (h : wpl (Wq 166 cd_166 post) post [.iload 3, .aload 0, .getfield 2459203, .getfield 1236, .if_icmp .gt 20, .iload 2, .iconst (-1), .if_icmp .eq 20, .aload 0, .getfield 2459203, .iload 2, .getstatic 835, .invokevirtual 41267, .istore 2, .iinc 3 1, .goto 4] 4 loc stk M) : Wq 166 cd_166 post 4 loc stk M := prefB_run ck_166 _ 4 (by decide +kernel) h
theorem b_166_20 (h : wpl (Wq 166 cd_166 post) post [.iload 2, .iconst (-1), .if_icmp .eq 25, .iconst 1, .goto 26] 20 loc stk M) : Wq 166 cd_166 post 20 loc stk M := prefB_run ck_166 _ 20 (by decide +kernel) h
theorem b_166_25 (h : wpl (Wq 166 cd_166 post) post [.iconst 0, .ret 1] 25 loc stk M) : Wq 166 cd_166 post 25 loc stk M := prefB_run ck_166 _ 25 (by decide +kernel) h
theorem b_166_26 (h : wpl (Wq 166 cd_166 post) post [.ret 1] 26 loc stk M) : Wq 166 cd_166 post 26 loc stk M := prefB_run ck_166 _ 26 (by decide +kernel) h
end
/-! StaticKernel$Faults.waitsFor(II)Z -/
set_option maxRecDepth 100000 in
theorem ck_167 : chkM (mt 167) cd_167 = true := by decide +kernel
section
variable {post : Option AV → AMem → Prop} {loc : Lc} {stk : List AV} {M : AMem}
theorem b_167_0 (h : wpl (Wq 167 cd_167 post) post [.iload 1, .iconst (-1), .if_icmp .ne 5, .iconst 0, .ret 1] 0 loc stk M) : Wq 167 cd_167 post 0 loc stk M := prefB_run ck_167 _ 0 (by decide +kernel) h
theorem b_167_5 (h : wpl (Wq 167 cd_167 post) post [.aload 0, .getfield 2459203, .getfield 1119065703627, .iload 1, .iaload, .istore 3] 5 loc stk M) : Wq 167 cd_167 post 5 loc stk M := prefB_run ck_167 _ 5 (by decide +kernel) h
theorem b_167_11 (h : wpl (Wq 167 cd_167 post) post [.iload 3, .aload 0, .getfield 2459203, .getfield 1119066522831, .iload 1, .iaload, .if_icmp .ge 36, .aload 0, .getfield 2459203, .getfield 6713214567607, .iload 3, .aaload, .getstatic 841, .if_acmp .ne 34, .aload 0, .getfield 2459203, .getfield 6712587060415, .iload 3, .iaload, .iload 2, .if_icmp .ne 34, .iconst 1, .ret 1] 11 loc stk M) : Wq 167 cd_167 post 11 loc stk M := prefB_run ck_167 _ 11 (by decide +kernel) h
theorem b_167_34 (h : wpl (Wq 167 cd_167 post) post [.iinc 3 1, .goto 11] 34 loc stk M) : Wq 167 cd_167 post 34 loc stk M := prefB_run ck_167 _ 34 (by decide +kernel) h
theorem b_167_36 (h : wpl (Wq 167 cd_167 post) post [.iconst 0, .ret 1] 36 loc stk M) : Wq 167 cd_167 post 36 loc stk M := prefB_run ck_167 _ 36 (by decide +kernel) h
end
/-! StaticKernel$Faults.isTooMuch(I)Z -/
set_option maxRecDepth 100000 in
theorem ck_168 : chkM (mt 168) cd_168 = true := by decide +kernel
section
variable {post : Option AV → AMem → Prop} {loc : Lc} {stk : List AV} {M : AMem}
theorem b_168_0 (h : wpl (Wq 168 cd_168 post) post [.aload 0, .getfield 2459203, .getfield 6713214567607, .iload 1, .aaload, .getstatic 833, .if_acmp .eq 9, .iconst 0, .ret 1] 0 loc stk M) : Wq 168 cd_168 post 0 loc stk M := prefB_run ck_168 _ 0 (by decide +kernel) h
theorem b_168_9 (h : wpl (Wq 168 cd_168 post) post [.aload 0, .getfield 2459203, .getfield 6712586241211, .iload 1, .iaload, .istore 2, .aload 0, .getfield 2459203, .getfield 1119064884423, .iload 2, .iaload, .getstatic 925248, .aload 0, .getfield 2459203, .getfield 1119064065219, .iload 2, .iaload, .iaload, .if_icmp .lt 30, .iconst 1, .goto 31] 9 loc stk M) : Wq 168 cd_168 post 9 loc stk M := prefB_run ck_168 _ 9 (by decide +kernel) h
theorem b_168_30 (h : wpl (Wq 168 cd_168 post) post [.iconst 0, .ret 1] 30 loc stk M) : Wq 168 cd_168 post 30 loc stk M := prefB_run ck_168 _ 30 (by decide +kernel) h
theorem b_168_31 (h : wpl (Wq 168 cd_168 post) post [.ret 1] 31 loc stk M) : Wq 168 cd_168 post 31 loc stk M := prefB_run ck_168 _ 31 (by decide +kernel) h
end
/-! StaticKernel$Plan.fill(LStaticKernel$Outline;)V -/
set_option maxRecDepth 100000 in
theorem ck_169 : chkM (mt 169) cd_169 = true := by decide +kernel
section
variable {post : Option AV → AMem → Prop} {loc : Lc} {stk : List AV} {M : AMem}
theorem b_169_0 (h : wpl (Wq 169 cd_169 post) post [.iconst 0, .istore 2] 0 loc stk M) : Wq 169 cd_169 post 0 loc stk M := prefB_run ck_169 _ 0 (by decide +kernel) h
theorem b_169_2 (h : wpl (Wq 169 cd_169 post) post [.iload 2, .iconst 7, .if_icmp .ge 19, .aload 0, .getfield 11771906003, .iload 2, .aload 1, .getfield 11771086035, .iload 2, .iaload, .getstatic 925248, .iload 2, .iaload, .invokestatic 288, .iastore, .iinc 2 1, .goto 2] 2 loc stk M) : Wq 169 cd_169 post 2 loc stk M := prefB_run ck_169 _ 2 (by decide +kernel) h
theorem b_169_19 (h : wpl (Wq 169 cd_169 post) post [.iconst 0, .istore 2] 19 loc stk M) : Wq 169 cd_169 post 19 loc stk M := prefB_run ck_169 _ 19 (by decide +kernel) h
theorem b_169_21 (h : wpl (Wq 169 cd_169 post) post [.iload 2, .aload 1, .getfield 1236, .if_icmp .ge 46, .aload 0, .aload 1, .getfield 1119064065219, .iload 2, .iaload, .aload 1, .getfield 1119064884423, .iload 2, .iaload, .invokevirtual 43573, .ifCond .eq 44, .aload 0, .aload 1, .iload 2, .aload 1, .getfield 1119064884423, .iload 2, .iaload, .invokevirtual 43845, .iinc 2 1, .goto 21] 21 loc stk M) : Wq 169 cd_169 post 21 loc stk M := prefB_run ck_169 _ 21 (by decide +kernel) h
theorem b_169_44 (h : wpl (Wq 169 cd_169 post) post [.iinc 2 1, .goto 21] 44 loc stk M) : Wq 169 cd_169 post 44 loc stk M := prefB_run ck_169 _ 44 (by decide +kernel) h
theorem b_169_46 (h : wpl (Wq 169 cd_169 post) post [.aload 0, .invokevirtual 45845, .aload 0, .invokevirtual 46357, .aload 0, .invokevirtual 46869, .return_] 46 loc stk M) : Wq 169 cd_169 post 46 loc stk M := prefB_run ck_169 _ 46 (by decide +kernel) h
end
/-! StaticKernel$Plan.has(II)Z -/
set_option maxRecDepth 100000 in
theorem ck_170 : chkM (mt 170) cd_170 = true := by decide +kernel
section
variable {post : Option AV → AMem → Prop} {loc : Lc} {stk : List AV} {M : AMem}
theorem b_170_0 (h : wpl (Wq 170 cd_170 post) post [.iload 1, .ifCond .lt 15, .iload 1, .iconst 7, .if_icmp .ge 15, .iload 2, .ifCond .lt 15, .iload 2, .aload 0, .getfield 11771906003, .iload 1, .iaload, .if_icmp .ge 15, .iconst 1, .goto 16] 0 loc stk M) : Wq 170 cd_170 post 0 loc stk M := prefB_run ck_170 _ 0 (by decide +kernel) h
theorem b_170_15 (h : wpl (Wq 170 cd_170 post) post [.iconst 0, .ret 1] 15 loc stk M) : Wq 170 cd_170 post 15 loc stk M := prefB_run ck_170 _ 15 (by decide +kernel) h
theorem b_170_16 (h : wpl (Wq 170 cd_170 post) post [.ret 1] 16 loc stk M) : Wq 170 cd_170 post 16 loc stk M := prefB_run ck_170 _ 16 (by decide +kernel) h
end
/-! StaticKernel$Plan.fillThing(LStaticKernel$Outline;II)V -/
set_option maxRecDepth 100000 in
theorem ck_171 : chkM (mt 171) cd_171 = true := by decide +kernel
section
variable {post : Option AV → AMem → Prop} {loc : Lc} {stk : List AV} {M : AMem}
theorem b_171_0 (h : wpl (Wq 171 cd_171 post) post [.aload 1, .getfield 1119064065219, .iload 2, .iaload, .istore 4, .aload 0, .getfield 12401870807, .iload 4, .aaload, .iload 3, .aload 1, .getfield 1639603, .getfield 6713003213615, .aload 1, .getfield 1119065703627, .iload 2, .iaload, .laload, .lastore, .aload 0, .getfield 12403509211, .iload 4, .aaload, .iload 3, .aload 1, .getfield 1639603, .getfield 6713004032819, .aload 1, .getfield 1119065703627, .iload 2, .iaload, .laload, .lastore, .iload 4, .tableswitch 84 2 6 #[35, 52, 60, 68, 76]] 0 loc stk M) : Wq 171 cd_171 post 0 loc stk M := prefB_run ck_171 _ 0 (by decide +kernel) h
theorem b_171_35 (h : wpl (Wq 171 cd_171 post) post [.aload 0, .getfield 53933672439, .iload 3, .aload 1, .iload 2, .getstatic 776, .invokevirtual 41779, .bastore, .aload 0, .getfield 53724776443, .iload 3, .aload 1, .iload 2, .getstatic 835, .invokevirtual 44083, .iastore, .goto 84] 35 loc stk M) : Wq 171 cd_171 post 35 loc stk M := prefB_run ck_171 _ 35 (by decide +kernel) h
theorem b_171_52 (h : wpl (Wq 171 cd_171 post) post [.aload 0, .getfield 27506280423, .iload 3, .aaload, .aload 1, .iload 2, .invokevirtual 44345, .goto 84] 52 loc stk M) : Wq 171 cd_171 post 52 loc stk M := prefB_run ck_171 _ 52 (by decide +kernel) h
theorem b_171_60 (h : wpl (Wq 171 cd_171 post) post [.aload 0, .getfield 81191733215, .iload 3, .aaload, .aload 1, .iload 2, .invokevirtual 44856, .goto 84] 60 loc stk M) : Wq 171 cd_171 post 60 loc stk M := prefB_run ck_171 _ 60 (by decide +kernel) h
theorem b_171_68 (h : wpl (Wq 171 cd_171 post) post [.aload 0, .getfield 27505461219, .iload 3, .aaload, .aload 1, .iload 2, .invokevirtual 45368, .goto 84] 68 loc stk M) : Wq 171 cd_171 post 68 loc stk M := prefB_run ck_171 _ 68 (by decide +kernel) h
theorem b_171_76 (h : wpl (Wq 171 cd_171 post) post [.aload 0, .getfield 81194190827, .iload 3, .aaload, .aload 1, .iload 2, .invokevirtual 45626, .goto 84] 76 loc stk M) : Wq 171 cd_171 post 76 loc stk M := prefB_run ck_171 _ 76 (by decide +kernel) h
theorem b_171_84 (h : wpl (Wq 171 cd_171 post) post [.return_] 84 loc stk M) : Wq 171 cd_171 post 84 loc stk M := prefB_run ck_171 _ 84 (by decide +kernel) h
end
/-! StaticKernel$Outline.numberOf(ILStaticKernel$Role;)I -/
set_option maxRecDepth 100000 in
theorem ck_172 : chkM (mt 172) cd_172 = true := by decide +kernel
section
variable {post : Option AV → AMem → Prop} {loc : Lc} {stk : List AV} {M : AMem}
theorem b_172_0 (h : wpl (Wq 172 cd_172 post) post [.aload 0, .iload 1, .aload 2, .invokevirtual 41267, .istore 3, .iload 3, .iconst (-1), .if_icmp .ne 10, .iconst (-1), .goto 14] 0 loc stk M) : Wq 172 cd_172 post 0 loc stk M := prefB_run ck_172 _ 0 (by decide +kernel) h
theorem b_172_10 (h : wpl (Wq 172 cd_172 post) post [.aload 0, .getfield 1119064884423, .iload 3, .iaload, .ret 0] 10 loc stk M) : Wq 172 cd_172 post 10 loc stk M := prefB_run ck_172 _ 10 (by decide +kernel) h
theorem b_172_14 (h : wpl (Wq 172 cd_172 post) post [.ret 0] 14 loc stk M) : Wq 172 cd_172 post 14 loc stk M := prefB_run ck_172 _ 14 (by decide +kernel) h
end
/-! StaticKernel$Counter.fill(LStaticKernel$Outline;I)V -/
set_option maxRecDepth 100000 in
theorem ck_173 : chkM (mt 173) cd_173 = true := by decide +kernel
section
variable {post : Option AV → AMem → Prop} {loc : Lc} {stk : List AV} {M : AMem}
theorem b_173_0 (h : wpl (Wq 173 cd_173 post) post [.aload 0, .aload 1, .iload 2, .getstatic 845, .iconst 1, .invokevirtual 40515, .putfield 3600, .aload 0, .aload 1, .iload 2, .getstatic 846, .iconst 1, .invokevirtual 40515, .putfield 3604, .aload 0, .aload 1, .iload 2, .getstatic 847, .iconst 1, .invokevirtual 40515, .putfield 3608, .aload 0, .invokevirtual 44569, .return_] 0 loc stk M) : Wq 173 cd_173 post 0 loc stk M := prefB_run ck_173 _ 0 (by decide +kernel) h
end
/-! StaticKernel$Counter.zero()V -/
set_option maxRecDepth 100000 in
theorem ck_174 : chkM (mt 174) cd_174 = true := by decide +kernel
section
variable {post : Option AV → AMem → Prop} {loc : Lc} {stk : List AV} {M : AMem}
theorem b_174_0 (h : wpl (Wq 174 cd_174 post) post [.aload 0, .iconst 0, .putfield 3612, .aload 0, .iconst 0, .putfield 3616, .return_] 0 loc stk M) : Wq 174 cd_174 post 0 loc stk M := prefB_run ck_174 _ 0 (by decide +kernel) h
end
/-! StaticKernel$Worker.fillTask(LStaticKernel$Outline;I)V -/
set_option maxRecDepth 100000 in
theorem ck_175 : chkM (mt 175) cd_175 = true := by decide +kernel
section
variable {post : Option AV → AMem → Prop} {loc : Lc} {stk : List AV} {M : AMem}
theorem b_175_0 (h : wpl (Wq 175 cd_175 post) post [.aload 0, .aload 1, .iload 2, .getstatic 843, .iconst 0, .invokevirtual 40515, .putfield 3200, .aload 0, .aload 1, .iload 2, .getstatic 795, .invokevirtual 41779, .putfield 3205, .aload 0, .aload 1, .iload 2, .getstatic 844, .iconst 1, .invokevirtual 40515, .putfield 3208, .aload 0, .aload 1, .iload 2, .getstatic 841, .invokevirtual 45107, .putfield 3212, .aload 0, .aload 1, .iload 2, .getstatic 842, .invokevirtual 45107, .putfield 3216, .aload 0, .aload 1, .iload 2, .getstatic 836, .invokevirtual 45107, .putfield 3220, .aload 0, .iconst (-1), .putfield 3224, .return_] 0 loc stk M) : Wq 175 cd_175 post 0 loc stk M := prefB_run ck_175 _ 0 (by decide +kernel) h
end
/-! StaticKernel$Outline.bitsOf(ILStaticKernel$Role;)I -/
set_option maxRecDepth 100000 in
theorem ck_176 : chkM (mt 176) cd_176 = true := by decide +kernel
section
variable {post : Option AV → AMem → Prop} {loc : Lc} {stk : List AV} {M : AMem}
theorem b_176_0 (h : wpl (Wq 176 cd_176 post) post [.iconst 0, .istore 3, .aload 0, .getfield 1119065703627, .iload 1, .iaload, .istore 4] 0 loc stk M) : Wq 176 cd_176 post 0 loc stk M := prefB_run ck_176 _ 0 (by decide +kernel) h
theorem b_176_7 (h : wpl (Wq 176 cd_176 post) post [.iload 4, .aload 0, .getfield 1119066522831, .iload 1, .iaload, .if_icmp .ge 39, .aload 0, .getfield 6713214567607, .iload 4, .aaload, .aload 2, .if_acmp .ne 37, .aload 0, .getfield 6712587060415, .iload 4, .iaload, .iconst (-1), .if_icmp .eq 37, .iload 3, .iconst 1, .aload 0, .getfield 1119064884423, .aload 0, .getfield 6712587060415, .iload 4, .iaload, .iaload, .ishl, .ior, .istore 3, .iinc 4 1, .goto 7] 7 loc stk M) : Wq 176 cd_176 post 7 loc stk M := prefB_run ck_176 _ 7 (by decide +kernel) h
theorem b_176_37 (h : wpl (Wq 176 cd_176 post) post [.iinc 4 1, .goto 7] 37 loc stk M) : Wq 176 cd_176 post 37 loc stk M := prefB_run ck_176 _ 37 (by decide +kernel) h
theorem b_176_39 (h : wpl (Wq 176 cd_176 post) post [.iload 3, .ret 0] 39 loc stk M) : Wq 176 cd_176 post 39 loc stk M := prefB_run ck_176 _ 39 (by decide +kernel) h
end
/-! StaticKernel$Worker.fillIsr(LStaticKernel$Outline;I)V -/
set_option maxRecDepth 100000 in
theorem ck_177 : chkM (mt 177) cd_177 = true := by decide +kernel
section
variable {post : Option AV → AMem → Prop} {loc : Lc} {stk : List AV} {M : AMem}
theorem b_177_0 (h : wpl (Wq 177 cd_177 post) post [.aload 0, .iconst 63, .aload 1, .iload 2, .getstatic 848, .iconst 1, .invokevirtual 40515, .iadd, .putfield 3200, .aload 0, .aload 1, .iload 2, .getstatic 836, .invokevirtual 45107, .putfield 3220, .return_] 0 loc stk M) : Wq 177 cd_177 post 0 loc stk M := prefB_run ck_177 _ 0 (by decide +kernel) h
end
/-! StaticKernel$Alarm.fill(LStaticKernel$Outline;I)V -/
set_option maxRecDepth 100000 in
theorem ck_178 : chkM (mt 178) cd_178 = true := by decide +kernel
section
variable {post : Option AV → AMem → Prop} {loc : Lc} {stk : List AV} {M : AMem}
theorem b_178_0 (h : wpl (Wq 178 cd_178 post) post [.aload 0, .aload 1, .iload 2, .getstatic 837, .invokevirtual 44083, .putfield 4000, .aload 0, .aload 1, .iload 2, .getstatic 840, .invokevirtual 44083, .putfield 4008, .aload 0, .aload 1, .iload 2, .aload 0, .getfield 4008, .iconst (-1), .if_icmp .ne 21, .getstatic 838, .goto 22] 0 loc stk M) : Wq 178 cd_178 post 0 loc stk M := prefB_run ck_178 _ 0 (by decide +kernel) h
theorem b_178_21 (h : wpl (Wq 178 cd_178 post) post [.getstatic 839, .invokevirtual 44083, .putfield 4004, .aload 0, .aload 1, .iload 2, .getstatic 842, .invokevirtual 45107, .putfield 4012, .aload 0, .aload 1, .iload 2, .getstatic 849, .iconst 0, .invokevirtual 40515, .putfield 4016, .aload 0, .aload 1, .iload 2, .getstatic 850, .iconst 0, .invokevirtual 40515, .putfield 4020, .return_] 21 loc stk M) : Wq 178 cd_178 post 21 loc stk M := prefB_run ck_178 _ 21 (by decide +kernel) h
theorem b_178_22 (h : wpl (Wq 178 cd_178 post) post [.invokevirtual 44083, .putfield 4004, .aload 0, .aload 1, .iload 2, .getstatic 842, .invokevirtual 45107, .putfield 4012, .aload 0, .aload 1, .iload 2, .getstatic 849, .iconst 0, .invokevirtual 40515, .putfield 4016, .aload 0, .aload 1, .iload 2, .getstatic 850, .iconst 0, .invokevirtual 40515, .putfield 4020, .return_] 22 loc stk M) : Wq 178 cd_178 post 22 loc stk M := prefB_run ck_178 _ 22 (by decide +kernel) h
end
/-! StaticKernel$Plan.findGroups()V -/
set_option maxRecDepth 100000 in
theorem ck_179 : chkM (mt 179) cd_179 = true := by decide +kernel
section
variable {post : Option AV → AMem → Prop} {loc : Lc} {stk : List AV} {M : AMem}
theorem b_179_0 (h : wpl (Wq 179 cd_179 post) post [.iconst 0, .istore 1] 0 loc stk M) : Wq 179 cd_179 post 0 loc stk M := prefB_run ck_179 _ 0 (by decide +kernel) h
theorem b_179_2 (h : wpl (Wq 179 cd_179 post) post [.iload 1, .aload 0, .getfield 11771906003, .iconst 2, .iaload, .if_icmp .ge 35, .aload 0, .getfield 53723138035, .iload 1, .iload 1, .iastore, .iload 1, .iconst 1, .isub, .istore 2] 2 loc stk M) : Wq 179 cd_179 post 2 loc stk M := prefB_run ck_179 _ 2 (by decide +kernel) h
theorem b_179_17 (h : wpl (Wq 179 cd_179 post) post [.iload 2, .ifCond .lt 33, .aload 0, .iload 2, .invokevirtual 46117, .aload 0, .iload 1, .invokevirtual 46117, .if_icmp .ne 31, .aload 0, .getfield 53723138035, .iload 1, .iload 2, .iastore, .iinc 2 (-1), .goto 17] 17 loc stk M) : Wq 179 cd_179 post 17 loc stk M := prefB_run ck_179 _ 17 (by decide +kernel) h
theorem b_179_31 (h : wpl (Wq 179 cd_179 post) post [.iinc 2 (-1), .goto 17] 31 loc stk M) : Wq 179 cd_179 post 31 loc stk M := prefB_run ck_179 _ 31 (by decide +kernel) h
theorem b_179_33 (h : wpl (Wq 179 cd_179 post) post [.iinc 1 1, .goto 2] 33 loc stk M) : Wq 179 cd_179 post 33 loc stk M := prefB_run ck_179 _ 33 (by decide +kernel) h
theorem b_179_35 (h : wpl (Wq 179 cd_179 post) post [.return_] 35 loc stk M) : Wq 179 cd_179 post 35 loc stk M := prefB_run ck_179 _ 35 (by decide +kernel) h
end
/-! StaticKernel$Plan.endOfAs(I)I -/
set_option maxRecDepth 100000 in
theorem ck_180 : chkM (mt 180) cd_180 = true := by decide +kernel
section
variable {post : Option AV → AMem → Prop} {loc : Lc} {stk : List AV} {M : AMem}
theorem b_180_0 (h : wpl (Wq 180 cd_180 post) post [.iload 1, .istore 2, .iconst 0, .istore 3] 0 loc stk M) : Wq 180 cd_180 post 0 loc stk M := prefB_run ck_180 _ 0 (by decide +kernel) h
theorem b_180_4 (h : wpl (Wq 180 cd_180 post) post [.iload 3, .iconst 32, .if_icmp .ge 20, .aload 0, .getfield 53724776443, .iload 2, .iaload, .iconst (-1), .if_icmp .eq 20, .aload 0, .getfield 53724776443, .iload 2, .iaload, .istore 2, .iinc 3 1, .goto 4] 4 loc stk M) : Wq 180 cd_180 post 4 loc stk M := prefB_run ck_180 _ 4 (by decide +kernel) h
theorem b_180_20 (h : wpl (Wq 180 cd_180 post) post [.iload 2, .ret 0] 20 loc stk M) : Wq 180 cd_180 post 20 loc stk M := prefB_run ck_180 _ 20 (by decide +kernel) h
end
/-! StaticKernel$Plan.findInternals()V -/
set_option maxRecDepth 100000 in
theorem ck_181 : chkM (mt 181) cd_181 = true := by decide +kernel
section
variable {post : Option AV → AMem → Prop} {loc : Lc} {stk : List AV} {M : AMem}
theorem b_181_0 (h : wpl (Wq 181 cd_181 post) post [.iconst 0, .istore 1] 0 loc stk M) : Wq 181 cd_181 post 0 loc stk M := prefB_run ck_181 _ 0 (by decide +kernel) h
theorem b_181_2 (h : wpl (Wq 181 cd_181 post) post [.iload 1, .aload 0, .getfield 11771906003, .iconst 4, .iaload, .if_icmp .ge 38, .iconst 0, .istore 2] 2 loc stk M) : Wq 181 cd_181 post 2 loc stk M := prefB_run ck_181 _ 2 (by decide +kernel) h
theorem b_181_10 (h : wpl (Wq 181 cd_181 post) post [.iload 2, .aload 0, .getfield 11771906003, .iconst 2, .iaload, .if_icmp .ge 36, .aload 0, .getfield 53933672439, .iload 2, .baload, .ifCond .eq 34, .aload 0, .getfield 81191733215, .iload 1, .aaload, .iload 2, .invokevirtual 46632, .ifCond .eq 34, .aload 0, .getfield 81191733215, .iload 1, .aaload, .iload 2, .putfield 3224, .iinc 2 1, .goto 10] 10 loc stk M) : Wq 181 cd_181 post 10 loc stk M := prefB_run ck_181 _ 10 (by decide +kernel) h
theorem b_181_34 (h : wpl (Wq 181 cd_181 post) post [.iinc 2 1, .goto 10] 34 loc stk M) : Wq 181 cd_181 post 34 loc stk M := prefB_run ck_181 _ 34 (by decide +kernel) h
theorem b_181_36 (h : wpl (Wq 181 cd_181 post) post [.iinc 1 1, .goto 2] 36 loc stk M) : Wq 181 cd_181 post 36 loc stk M := prefB_run ck_181 _ 36 (by decide +kernel) h
theorem b_181_38 (h : wpl (Wq 181 cd_181 post) post [.return_] 38 loc stk M) : Wq 181 cd_181 post 38 loc stk M := prefB_run ck_181 _ 38 (by decide +kernel) h
end
/-! StaticKernel$Worker.usesResource(I)Z -/
set_option maxRecDepth 100000 in
theorem ck_182 : chkM (mt 182) cd_182 = true := by decide +kernel
section
variable {post : Option AV → AMem → Prop} {loc : Lc} {stk : List AV} {M : AMem}
theorem b_182_0 (h : wpl (Wq 182 cd_182 post) post [.aload 0, .getfield 3220, .iload 1, .iushr, .iconst 1, .iand, .ifCond .eq 9, .iconst 1, .goto 10] 0 loc stk M) : Wq 182 cd_182 post 0 loc stk M := prefB_run ck_182 _ 0 (by decide +kernel) h
theorem b_182_9 (h : wpl (Wq 182 cd_182 post) post [.iconst 0, .ret 1] 9 loc stk M) : Wq 182 cd_182 post 9 loc stk M := prefB_run ck_182 _ 9 (by decide +kernel) h
theorem b_182_10 (h : wpl (Wq 182 cd_182 post) post [.ret 1] 10 loc stk M) : Wq 182 cd_182 post 10 loc stk M := prefB_run ck_182 _ 10 (by decide +kernel) h
end
/-! StaticKernel$Plan.findCeilings()V -/
set_option maxRecDepth 100000 in
theorem ck_183 : chkM (mt 183) cd_183 = true := by decide +kernel
section
variable {post : Option AV → AMem → Prop} {loc : Lc} {stk : List AV} {M : AMem}
theorem b_183_0 (h : wpl (Wq 183 cd_183 post) post [.iconst 0, .istore 1] 0 loc stk M) : Wq 183 cd_183 post 0 loc stk M := prefB_run ck_183 _ 0 (by decide +kernel) h
theorem b_183_2 (h : wpl (Wq 183 cd_183 post) post [.iload 1, .aload 0, .getfield 11771906003, .iconst 2, .iaload, .if_icmp .ge 15, .aload 0, .getfield 53722318831, .iload 1, .iconst (-1), .iastore, .iinc 1 1, .goto 2] 2 loc stk M) : Wq 183 cd_183 post 2 loc stk M := prefB_run ck_183 _ 2 (by decide +kernel) h
theorem b_183_15 (h : wpl (Wq 183 cd_183 post) post [.iconst 0, .istore 1] 15 loc stk M) : Wq 183 cd_183 post 15 loc stk M := prefB_run ck_183 _ 15 (by decide +kernel) h
theorem b_183_17 (h : wpl (Wq 183 cd_183 post) post [.iload 1, .aload 0, .getfield 11771906003, .iconst 4, .iaload, .if_icmp .ge 45, .aload 0, .aload 0, .getfield 81191733215, .iload 1, .aaload, .invokevirtual 47141, .aload 0, .getfield 53722318831, .iconst 0, .aload 0, .getfield 53722318831, .iconst 0, .iaload, .aload 0, .getfield 81191733215, .iload 1, .aaload, .getfield 3200, .invokestatic 32, .iastore, .iinc 1 1, .goto 17] 17 loc stk M) : Wq 183 cd_183 post 17 loc stk M := prefB_run ck_183 _ 17 (by decide +kernel) h
theorem b_183_45 (h : wpl (Wq 183 cd_183 post) post [.iconst 0, .istore 1] 45 loc stk M) : Wq 183 cd_183 post 45 loc stk M := prefB_run ck_183 _ 45 (by decide +kernel) h
theorem b_183_47 (h : wpl (Wq 183 cd_183 post) post [.iload 1, .aload 0, .getfield 11771906003, .iconst 5, .iaload, .if_icmp .ge 61, .aload 0, .aload 0, .getfield 27505461219, .iload 1, .aaload, .invokevirtual 47141, .iinc 1 1, .goto 47] 47 loc stk M) : Wq 183 cd_183 post 47 loc stk M := prefB_run ck_183 _ 47 (by decide +kernel) h
theorem b_183_61 (h : wpl (Wq 183 cd_183 post) post [.return_] 61 loc stk M) : Wq 183 cd_183 post 61 loc stk M := prefB_run ck_183 _ 61 (by decide +kernel) h
end
/-! StaticKernel$Plan.raiseCeilings(LStaticKernel$Worker;)V -/
set_option maxRecDepth 100000 in
theorem ck_184 : chkM (mt 184) cd_184 = true := by decide +kernel
section
variable {post : Option AV → AMem → Prop} {loc : Lc} {stk : List AV} {M : AMem}
theorem b_184_0 (h : wpl (Wq 184 cd_184 post) post [.iconst 0, .istore 2] 0 loc stk M) : Wq 184 cd_184 post 0 loc stk M := prefB_run ck_184 _ 0 (by decide +kernel) h
theorem b_184_2 (h : wpl (Wq 184 cd_184 post) post [.iload 2, .aload 0, .getfield 11771906003, .iconst 2, .iaload, .if_icmp .ge 44, .iconst 0, .istore 3] 2 loc stk M) : Wq 184 cd_184 post 2 loc stk M := prefB_run ck_184 _ 2 (by decide +kernel) h
theorem b_184_10 (h : wpl (Wq 184 cd_184 post) post [.iload 3, .aload 0, .getfield 11771906003, .iconst 2, .iaload, .if_icmp .ge 42, .aload 1, .iload 3, .invokevirtual 46632, .ifCond .eq 40, .aload 0, .getfield 53723138035, .iload 3, .iaload, .aload 0, .getfield 53723138035, .iload 2, .iaload, .if_icmp .ne 40, .aload 0, .getfield 53722318831, .iload 2, .aload 0, .getfield 53722318831, .iload 2, .iaload, .aload 1, .getfield 3200, .invokestatic 32, .iastore, .iinc 3 1, .goto 10] 10 loc stk M) : Wq 184 cd_184 post 10 loc stk M := prefB_run ck_184 _ 10 (by decide +kernel) h
theorem b_184_40 (h : wpl (Wq 184 cd_184 post) post [.iinc 3 1, .goto 10] 40 loc stk M) : Wq 184 cd_184 post 40 loc stk M := prefB_run ck_184 _ 40 (by decide +kernel) h
theorem b_184_42 (h : wpl (Wq 184 cd_184 post) post [.iinc 2 1, .goto 2] 42 loc stk M) : Wq 184 cd_184 post 42 loc stk M := prefB_run ck_184 _ 42 (by decide +kernel) h
theorem b_184_44 (h : wpl (Wq 184 cd_184 post) post [.return_] 44 loc stk M) : Wq 184 cd_184 post 44 loc stk M := prefB_run ck_184 _ 44 (by decide +kernel) h
end
/-! StaticKernel$Machine.forgetNotes()V -/
set_option maxRecDepth 100000 in
theorem ck_185 : chkM (mt 185) cd_185 = true := by decide +kernel
section
variable {post : Option AV → AMem → Prop} {loc : Lc} {stk : List AV} {M : AMem}
theorem b_185_0 (h : wpl (Wq 185 cd_185 post) post [.aload 0, .iconst 0, .putfield 2436, .aload 0, .iconst 0, .putfield 2440, .aload 0, .iconst 0, .putfield 2444, .return_] 0 loc stk M) : Wq 185 cd_185 post 0 loc stk M := prefB_run ck_185 _ 0 (by decide +kernel) h
end
/-! StaticKernel.fault(I)I -/
set_option maxRecDepth 100000 in
theorem ck_186 : chkM (mt 186) cd_186 = true := by decide +kernel
section
variable {post : Option AV → AMem → Prop} {loc : Lc} {stk : List AV} {M : AMem}
theorem b_186_0 (h : wpl (Wq 186 cd_186 post) post [.iload 1, .lookupswitch 10 #[(0, 2), (1, 6)]] 0 loc stk M) : Wq 186 cd_186 post 0 loc stk M := prefB_run ck_186 _ 0 (by decide +kernel) h
theorem b_186_2 (h : wpl (Wq 186 cd_186 post) post [.aload 0, .getfield 3277219, .getfield 1608, .ret 0] 2 loc stk M) : Wq 186 cd_186 post 2 loc stk M := prefB_run ck_186 _ 2 (by decide +kernel) h
theorem b_186_6 (h : wpl (Wq 186 cd_186 post) post [.aload 0, .getfield 3277219, .getfield 1612, .ret 0] 6 loc stk M) : Wq 186 cd_186 post 6 loc stk M := prefB_run ck_186 _ 6 (by decide +kernel) h
theorem b_186_10 (h : wpl (Wq 186 cd_186 post) post [.iconst (-1), .ret 0] 10 loc stk M) : Wq 186 cd_186 post 10 loc stk M := prefB_run ck_186 _ 10 (by decide +kernel) h
end
/-! StaticKernel.many(I)I -/
set_option maxRecDepth 100000 in
theorem ck_187 : chkM (mt 187) cd_187 = true := by decide +kernel
section
variable {post : Option AV → AMem → Prop} {loc : Lc} {stk : List AV} {M : AMem}
theorem b_187_0 (h : wpl (Wq 187 cd_187 post) post [.aload 0, .getfield 4915627, .invokevirtual 29462, .iload 1, .ifCond .lt 14, .iload 1, .iconst 7, .if_icmp .ge 14, .aload 0, .getfield 4096423, .getfield 11771906003, .iload 1, .iaload, .goto 15] 0 loc stk M) : Wq 187 cd_187 post 0 loc stk M := prefB_run ck_187 _ 0 (by decide +kernel) h
theorem b_187_14 (h : wpl (Wq 187 cd_187 post) post [.iconst (-1), .ret 0] 14 loc stk M) : Wq 187 cd_187 post 14 loc stk M := prefB_run ck_187 _ 14 (by decide +kernel) h
theorem b_187_15 (h : wpl (Wq 187 cd_187 post) post [.ret 0] 15 loc stk M) : Wq 187 cd_187 post 15 loc stk M := prefB_run ck_187 _ 15 (by decide +kernel) h
end
/-! StaticKernel.start(I)I -/
set_option maxRecDepth 100000 in
theorem ck_188 : chkM (mt 188) cd_188 = true := by decide +kernel
section
variable {post : Option AV → AMem → Prop} {loc : Lc} {stk : List AV} {M : AMem}
theorem b_188_0 (h : wpl (Wq 188 cd_188 post) post [.aload 0, .iload 1, .invokevirtual 48417, .istore 2, .aload 0, .getfield 4915627, .invokevirtual 50966, .aload 0, .getfield 4915627, .invokevirtual 29462, .iload 2, .ret 0] 0 loc stk M) : Wq 188 cd_188 post 0 loc stk M := prefB_run ck_188 _ 0 (by decide +kernel) h
end
/-! StaticKernel.tryStart(I)I -/
set_option maxRecDepth 100000 in
theorem ck_189 : chkM (mt 189) cd_189 = true := by decide +kernel
section
variable {post : Option AV → AMem → Prop} {loc : Lc} {stk : List AV} {M : AMem}
theorem b_189_0 (h : wpl (Wq 189 cd_189 post) post [.aload 0, .getfield 4915627, .getfield 2409, .ifCond .eq 6, .iconst 7, .ret 0] 0 loc stk M) : Wq 189 cd_189 post 0 loc stk M := prefB_run ck_189 _ 0 (by decide +kernel) h
theorem b_189_6 (h : wpl (Wq 189 cd_189 post) post [.aload 0, .getfield 4096423, .iconst 0, .iload 1, .invokevirtual 43573, .ifCond .ne 14, .iconst 3, .ret 0] 6 loc stk M) : Wq 189 cd_189 post 6 loc stk M := prefB_run ck_189 _ 6 (by decide +kernel) h
theorem b_189_14 (h : wpl (Wq 189 cd_189 post) post [.aload 0, .getfield 4915627, .iload 1, .invokevirtual 48678, .iconst 0, .ret 0] 14 loc stk M) : Wq 189 cd_189 post 14 loc stk M := prefB_run ck_189 _ 14 (by decide +kernel) h
end
/-! StaticKernel$Machine.goOn(I)V -/
set_option maxRecDepth 100000 in
theorem ck_190 : chkM (mt 190) cd_190 = true := by decide +kernel
section
variable {post : Option AV → AMem → Prop} {loc : Lc} {stk : List AV} {M : AMem}
theorem b_190_0 (h : wpl (Wq 190 cd_190 post) post [.aload 0, .iconst 1, .putfield 2409, .aload 0, .iload 1, .putfield 2412, .aload 0, .invokevirtual 47382, .aload 0, .iconst 70000, .iload 1, .iadd, .invokevirtual 48934, .iconst 0, .istore 2] 0 loc stk M) : Wq 190 cd_190 post 0 loc stk M := prefB_run ck_190 _ 0 (by decide +kernel) h
theorem b_190_15 (h : wpl (Wq 190 cd_190 post) post [.iload 2, .aload 0, .getfield 4098403, .getfield 11771906003, .iconst 3, .iaload, .if_icmp .ge 30, .aload 0, .getfield 4098403, .getfield 27506280423, .iload 2, .aaload, .invokevirtual 44569, .iinc 2 1, .goto 15] 15 loc stk M) : Wq 190 cd_190 post 15 loc stk M := prefB_run ck_190 _ 15 (by decide +kernel) h
theorem b_190_30 (h : wpl (Wq 190 cd_190 post) post [.aload 0, .invokevirtual 49174, .aload 0, .invokevirtual 50198, .return_] 30 loc stk M) : Wq 190 cd_190 post 30 loc stk M := prefB_run ck_190 _ 30 (by decide +kernel) h
end
/-! StaticKernel$Machine.keepNote(I)V -/
set_option maxRecDepth 100000 in
theorem ck_191 : chkM (mt 191) cd_191 = true := by decide +kernel
section
variable {post : Option AV → AMem → Prop} {loc : Lc} {stk : List AV} {M : AMem}
theorem b_191_0 (h : wpl (Wq 191 cd_191 post) post [.aload 0, .getfield 838900124035, .aload 0, .getfield 2436, .iconst 500, .irem, .iload 1, .iastore, .aload 0, .dup, .getfield 2436, .iconst 1, .iadd, .putfield 2436, .return_] 0 loc stk M) : Wq 191 cd_191 post 0 loc stk M := prefB_run ck_191 _ 0 (by decide +kernel) h
end
/-! StaticKernel$Machine.startTasks()V -/
set_option maxRecDepth 100000 in
theorem ck_192 : chkM (mt 192) cd_192 = true := by decide +kernel
section
variable {post : Option AV → AMem → Prop} {loc : Lc} {stk : List AV} {M : AMem}
theorem b_192_0 (h : wpl (Wq 192 cd_192 post) post [.iconst 0, .istore 1] 0 loc stk M) : Wq 192 cd_192 post 0 loc stk M := prefB_run ck_192 _ 0 (by decide +kernel) h
theorem b_192_2 (h : wpl (Wq 192 cd_192 post) post [.iload 1, .aload 0, .getfield 4098403, .getfield 11771906003, .iconst 4, .iaload, .if_icmp .ge 27, .aload 0, .getfield 4098403, .getfield 81191733215, .iload 1, .aaload, .getfield 3216, .aload 0, .getfield 2412, .iushr, .iconst 1, .iand, .ifCond .eq 25, .aload 0, .iload 1, .invokevirtual 49446, .pop, .iinc 1 1, .goto 2] 2 loc stk M) : Wq 192 cd_192 post 2 loc stk M := prefB_run ck_192 _ 2 (by decide +kernel) h
theorem b_192_25 (h : wpl (Wq 192 cd_192 post) post [.iinc 1 1, .goto 2] 25 loc stk M) : Wq 192 cd_192 post 25 loc stk M := prefB_run ck_192 _ 25 (by decide +kernel) h
theorem b_192_27 (h : wpl (Wq 192 cd_192 post) post [.return_] 27 loc stk M) : Wq 192 cd_192 post 27 loc stk M := prefB_run ck_192 _ 27 (by decide +kernel) h
end
/-! StaticKernel$Machine.request(I)I -/
set_option maxRecDepth 100000 in
theorem ck_193 : chkM (mt 193) cd_193 = true := by decide +kernel
section
variable {post : Option AV → AMem → Prop} {loc : Lc} {stk : List AV} {M : AMem}
theorem b_193_0 (h : wpl (Wq 193 cd_193 post) post [.aload 0, .getfield 4098403, .getfield 81191733215, .iload 1, .aaload, .astore 2, .aload 2, .invokevirtual 49688, .ifCond .eq 11, .iconst 4, .ret 0] 0 loc stk M) : Wq 193 cd_193 post 0 loc stk M := prefB_run ck_193 _ 0 (by decide +kernel) h
theorem b_193_11 (h : wpl (Wq 193 cd_193 post) post [.aload 2, .getfield 3228, .ifCond .ne 17, .aload 2, .iconst 0, .putfield 3240, .aload 2, .dup, .getfield 3228, .iconst 1, .iadd, .putfield 3228, .aload 0, .getfield 5736807, .iload 1, .aload 2, .getfield 3200, .iconst 0, .invokevirtual 49991, .iconst 0, .ret 0] 11 loc stk M) : Wq 193 cd_193 post 11 loc stk M := prefB_run ck_193 _ 11 (by decide +kernel) h
theorem b_193_17 (h : wpl (Wq 193 cd_193 post) post [.aload 2, .dup, .getfield 3228, .iconst 1, .iadd, .putfield 3228, .aload 0, .getfield 5736807, .iload 1, .aload 2, .getfield 3200, .iconst 0, .invokevirtual 49991, .iconst 0, .ret 0] 17 loc stk M) : Wq 193 cd_193 post 17 loc stk M := prefB_run ck_193 _ 17 (by decide +kernel) h
end
/-! StaticKernel$Worker.isAtLimit()Z -/
set_option maxRecDepth 100000 in
theorem ck_194 : chkM (mt 194) cd_194 = true := by decide +kernel
section
variable {post : Option AV → AMem → Prop} {loc : Lc} {stk : List AV} {M : AMem}
theorem b_194_0 (h : wpl (Wq 194 cd_194 post) post [.aload 0, .getfield 3228, .aload 0, .getfield 3208, .if_icmp .lt 7, .iconst 1, .goto 8] 0 loc stk M) : Wq 194 cd_194 post 0 loc stk M := prefB_run ck_194 _ 0 (by decide +kernel) h
theorem b_194_7 (h : wpl (Wq 194 cd_194 post) post [.iconst 0, .ret 1] 7 loc stk M) : Wq 194 cd_194 post 7 loc stk M := prefB_run ck_194 _ 7 (by decide +kernel) h
theorem b_194_8 (h : wpl (Wq 194 cd_194 post) post [.ret 1] 8 loc stk M) : Wq 194 cd_194 post 8 loc stk M := prefB_run ck_194 _ 8 (by decide +kernel) h
end
/-! StaticKernel$Rows.put(IIZ)V -/
set_option maxRecDepth 100000 in
theorem ck_195 : chkM (mt 195) cd_195 = true := by decide +kernel
section
variable {post : Option AV → AMem → Prop} {loc : Lc} {stk : List AV} {M : AMem}
theorem b_195_0 (h : wpl (Wq 195 cd_195 post) post [.aload 0, .getfield 2808, .iconst 384, .if_icmp .lt 5, .return_] 0 loc stk M) : Wq 195 cd_195 post 0 loc stk M := prefB_run ck_195 _ 0 (by decide +kernel) h
theorem b_195_5 (h : wpl (Wq 195 cd_195 post) post [.iload 3, .ifCond .eq 11, .iload 2, .iconst 1, .iadd, .goto 12] 5 loc stk M) : Wq 195 cd_195 post 5 loc stk M := prefB_run ck_195 _ 5 (by decide +kernel) h
theorem b_195_11 (h : wpl (Wq 195 cd_195 post) post [.iload 2, .istore 4, .aload 0, .getfield 2808, .istore 5] 11 loc stk M) : Wq 195 cd_195 post 11 loc stk M := prefB_run ck_195 _ 11 (by decide +kernel) h
theorem b_195_12 (h : wpl (Wq 195 cd_195 post) post [.istore 4, .aload 0, .getfield 2808, .istore 5] 12 loc stk M) : Wq 195 cd_195 post 12 loc stk M := prefB_run ck_195 _ 12 (by decide +kernel) h
theorem b_195_16 (h : wpl (Wq 195 cd_195 post) post [.iload 5, .ifCond .le 48, .aload 0, .getfield 644285238003, .iload 5, .iconst 1, .isub, .iaload, .iload 4, .if_icmp .lt 48, .aload 0, .getfield 644285238003, .iload 5, .aload 0, .getfield 644285238003, .iload 5, .iconst 1, .isub, .iaload, .iastore, .aload 0, .getfield 644286057207, .iload 5, .aload 0, .getfield 644286057207, .iload 5, .iconst 1, .isub, .iaload, .iastore, .iinc 5 (-1), .goto 16] 16 loc stk M) : Wq 195 cd_195 post 16 loc stk M := prefB_run ck_195 _ 16 (by decide +kernel) h
theorem b_195_48 (h : wpl (Wq 195 cd_195 post) post [.aload 0, .getfield 644285238003, .iload 5, .iload 2, .iastore, .aload 0, .getfield 644286057207, .iload 5, .iload 1, .iastore, .aload 0, .dup, .getfield 2808, .iconst 1, .iadd, .putfield 2808, .return_] 48 loc stk M) : Wq 195 cd_195 post 48 loc stk M := prefB_run ck_195 _ 48 (by decide +kernel) h
end
/-! StaticKernel$Machine.startAlarms()V -/
set_option maxRecDepth 100000 in
theorem ck_196 : chkM (mt 196) cd_196 = true := by decide +kernel
section
variable {post : Option AV → AMem → Prop} {loc : Lc} {stk : List AV} {M : AMem}
theorem b_196_0 (h : wpl (Wq 196 cd_196 post) post [.iconst 0, .istore 1] 0 loc stk M) : Wq 196 cd_196 post 0 loc stk M := prefB_run ck_196 _ 0 (by decide +kernel) h
theorem b_196_2 (h : wpl (Wq 196 cd_196 post) post [.iload 1, .aload 0, .getfield 4098403, .getfield 11771906003, .iconst 6, .iaload, .if_icmp .ge 38, .aload 0, .getfield 4098403, .getfield 81194190827, .iload 1, .aaload, .astore 2, .aload 2, .getfield 4012, .aload 0, .getfield 2412, .iushr, .iconst 1, .iand, .ifCond .eq 36, .aload 2, .aload 0, .getfield 4098403, .getfield 27506280423, .aload 2, .getfield 4000, .aaload, .aload 2, .getfield 4016, .invokevirtual 50473, .aload 2, .getfield 4020, .invokevirtual 50746, .iinc 1 1, .goto 2] 2 loc stk M) : Wq 196 cd_196 post 2 loc stk M := prefB_run ck_196 _ 2 (by decide +kernel) h
theorem b_196_36 (h : wpl (Wq 196 cd_196 post) post [.iinc 1 1, .goto 2] 36 loc stk M) : Wq 196 cd_196 post 36 loc stk M := prefB_run ck_196 _ 36 (by decide +kernel) h
theorem b_196_38 (h : wpl (Wq 196 cd_196 post) post [.return_] 38 loc stk M) : Wq 196 cd_196 post 38 loc stk M := prefB_run ck_196 _ 38 (by decide +kernel) h
end
/-! StaticKernel$Counter.valueBehind(I)I -/
set_option maxRecDepth 100000 in
theorem ck_197 : chkM (mt 197) cd_197 = true := by decide +kernel
section
variable {post : Option AV → AMem → Prop} {loc : Lc} {stk : List AV} {M : AMem}
theorem b_197_0 (h : wpl (Wq 197 cd_197 post) post [.aload 0, .getfield 3612, .iload 1, .iadd, .istore 2, .iload 2, .aload 0, .getfield 3600, .if_icmp .le 16, .iload 2, .aload 0, .getfield 3600, .isub, .iconst 1, .isub, .goto 17] 0 loc stk M) : Wq 197 cd_197 post 0 loc stk M := prefB_run ck_197 _ 0 (by decide +kernel) h
theorem b_197_16 (h : wpl (Wq 197 cd_197 post) post [.iload 2, .ret 0] 16 loc stk M) : Wq 197 cd_197 post 16 loc stk M := prefB_run ck_197 _ 16 (by decide +kernel) h
theorem b_197_17 (h : wpl (Wq 197 cd_197 post) post [.ret 0] 17 loc stk M) : Wq 197 cd_197 post 17 loc stk M := prefB_run ck_197 _ 17 (by decide +kernel) h
end
/-! StaticKernel$Alarm.use(II)V -/
set_option maxRecDepth 100000 in
theorem ck_198 : chkM (mt 198) cd_198 = true := by decide +kernel
section
variable {post : Option AV → AMem → Prop} {loc : Lc} {stk : List AV} {M : AMem}
theorem b_198_0 (h : wpl (Wq 198 cd_198 post) post [.aload 0, .iconst 1, .putfield 4025, .aload 0, .iload 1, .putfield 4028, .aload 0, .iload 2, .putfield 4032, .return_] 0 loc stk M) : Wq 198 cd_198 post 0 loc stk M := prefB_run ck_198 _ 0 (by decide +kernel) h
end
/-! StaticKernel$Machine.settle()V -/
set_option maxRecDepth 100000 in
theorem ck_199 : chkM (mt 199) cd_199 = true := by decide +kernel
section
variable {post : Option AV → AMem → Prop} {loc : Lc} {stk : List AV} {M : AMem}
theorem b_199_0 (h : wpl (Wq 199 cd_199 post) post [.aload 0, .getfield 2409, .ifCond .eq 6, .aload 0, .getfield 2416, .ifCond .le 7, .return_] 0 loc stk M) : Wq 199 cd_199 post 0 loc stk M := prefB_run ck_199 _ 0 (by decide +kernel) h
theorem b_199_6 (h : wpl (Wq 199 cd_199 post) post [.return_] 6 loc stk M) : Wq 199 cd_199 post 6 loc stk M := prefB_run ck_199 _ 6 (by decide +kernel) h
theorem b_199_7 (h : wpl (Wq 199 cd_199 post) post [.aload 0, .invokevirtual 51222, .istore 1, .iload 1, .iconst (-1), .if_icmp .eq 41, .aload 0, .getfield 2428, .iconst 16, .if_icmp .ge 41, .aload 0, .getfield 4098403, .getfield 27505461219, .iload 1, .aaload, .iconst 0, .putfield 3249, .aload 0, .getfield 26882050427, .aload 0, .getfield 2428, .iload 1, .iastore, .aload 0, .dup, .getfield 2428, .iconst 1, .iadd, .putfield 2428, .aload 0, .iconst 50000, .iload 1, .iadd, .invokevirtual 48934, .aload 0, .getfield 2428, .ifCond .ne 49, .aload 0, .invokevirtual 29718, .ifCond .eq 49, .aload 0, .invokevirtual 51734, .return_] 7 loc stk M) : Wq 199 cd_199 post 7 loc stk M := prefB_run ck_199 _ 7 (by decide +kernel) h
theorem b_199_41 (h : wpl (Wq 199 cd_199 post) post [.aload 0, .getfield 2428, .ifCond .ne 49, .aload 0, .invokevirtual 29718, .ifCond .eq 49, .aload 0, .invokevirtual 51734, .return_] 41 loc stk M) : Wq 199 cd_199 post 41 loc stk M := prefB_run ck_199 _ 41 (by decide +kernel) h
theorem b_199_49 (h : wpl (Wq 199 cd_199 post) post [.return_] 49 loc stk M) : Wq 199 cd_199 post 49 loc stk M := prefB_run ck_199 _ 49 (by decide +kernel) h
end
/-! StaticKernel$Machine.greatestCalled()I -/
set_option maxRecDepth 100000 in
theorem ck_200 : chkM (mt 200) cd_200 = true := by decide +kernel
section
variable {post : Option AV → AMem → Prop} {loc : Lc} {stk : List AV} {M : AMem}
theorem b_200_0 (h : wpl (Wq 200 cd_200 post) post [.aload 0, .getfield 4098403, .aload 0, .invokevirtual 51478, .invokevirtual 30245, .istore 1, .iconst (-1), .istore 2, .iconst 0, .istore 3] 0 loc stk M) : Wq 200 cd_200 post 0 loc stk M := prefB_run ck_200 _ 0 (by decide +kernel) h
theorem b_200_10 (h : wpl (Wq 200 cd_200 post) post [.iload 3, .aload 0, .getfield 4098403, .getfield 11771906003, .iconst 5, .iaload, .if_icmp .ge 37, .aload 0, .getfield 4098403, .getfield 27505461219, .iload 3, .aaload, .astore 4, .aload 4, .getfield 3249, .ifCond .eq 35, .aload 4, .getfield 3200, .iload 1, .if_icmp .le 35, .aload 4, .getfield 3200, .istore 1, .iload 3, .istore 2, .iinc 3 1, .goto 10] 10 loc stk M) : Wq 200 cd_200 post 10 loc stk M := prefB_run ck_200 _ 10 (by decide +kernel) h
theorem b_200_35 (h : wpl (Wq 200 cd_200 post) post [.iinc 3 1, .goto 10] 35 loc stk M) : Wq 200 cd_200 post 35 loc stk M := prefB_run ck_200 _ 35 (by decide +kernel) h
theorem b_200_37 (h : wpl (Wq 200 cd_200 post) post [.iload 2, .ret 0] 37 loc stk M) : Wq 200 cd_200 post 37 loc stk M := prefB_run ck_200 _ 37 (by decide +kernel) h
end
/-! StaticKernel$Machine.worker()LStaticKernel$Worker; -/
set_option maxRecDepth 100000 in
theorem ck_201 : chkM (mt 201) cd_201 = true := by decide +kernel
section
variable {post : Option AV → AMem → Prop} {loc : Lc} {stk : List AV} {M : AMem}
theorem b_201_0 (h : wpl (Wq 201 cd_201 post) post [.aload 0, .getfield 2428, .ifCond .le 15, .aload 0, .getfield 4098403, .getfield 27505461219, .aload 0, .getfield 26882050427, .aload 0, .getfield 2428, .iconst 1, .isub, .iaload, .aaload, .areturn] 0 loc stk M) : Wq 201 cd_201 post 0 loc stk M := prefB_run ck_201 _ 0 (by decide +kernel) h
theorem b_201_15 (h : wpl (Wq 201 cd_201 post) post [.aload 0, .getfield 2420, .iconst (-1), .if_icmp .eq 26, .aload 0, .getfield 4098403, .getfield 81191733215, .aload 0, .getfield 2420, .aaload, .goto 28] 15 loc stk M) : Wq 201 cd_201 post 15 loc stk M := prefB_run ck_201 _ 15 (by decide +kernel) h
theorem b_201_26 (h : wpl (Wq 201 cd_201 post) post [.aload 0, .getfield 6965651, .areturn] 26 loc stk M) : Wq 201 cd_201 post 26 loc stk M := prefB_run ck_201 _ 26 (by decide +kernel) h
theorem b_201_28 (h : wpl (Wq 201 cd_201 post) post [.areturn] 28 loc stk M) : Wq 201 cd_201 post 28 loc stk M := prefB_run ck_201 _ 28 (by decide +kernel) h
end
/-! StaticKernel$Machine.runTop()V -/
set_option maxRecDepth 100000 in
theorem ck_202 : chkM (mt 202) cd_202 = true := by decide +kernel
section
variable {post : Option AV → AMem → Prop} {loc : Lc} {stk : List AV} {M : AMem}
theorem b_202_0 (h : wpl (Wq 202 cd_202 post) post [.aload 0, .getfield 2420, .iconst (-1), .if_icmp .eq 25, .aload 0, .getfield 5736807, .aload 0, .getfield 2420, .aload 0, .getfield 4098403, .aload 0, .getfield 4098403, .getfield 81191733215, .aload 0, .getfield 2420, .aaload, .invokevirtual 30245, .iconst 1, .invokevirtual 49991, .aload 0, .iconst 20000, .aload 0, .getfield 2420, .iadd, .invokevirtual 48934, .aload 0, .aload 0, .getfield 5736807, .invokevirtual 51991, .putfield 2420, .aload 0, .getfield 4098403, .getfield 81191733215, .aload 0, .getfield 2420, .aaload, .astore 1, .aload 1, .aload 1, .getfield 3224, .iconst (-1), .if_icmp .eq 44, .iconst 1, .goto 45] 0 loc stk M) : Wq 202 cd_202 post 0 loc stk M := prefB_run ck_202 _ 0 (by decide +kernel) h
theorem b_202_25 (h : wpl (Wq 202 cd_202 post) post [.aload 0, .aload 0, .getfield 5736807, .invokevirtual 51991, .putfield 2420, .aload 0, .getfield 4098403, .getfield 81191733215, .aload 0, .getfield 2420, .aaload, .astore 1, .aload 1, .aload 1, .getfield 3224, .iconst (-1), .if_icmp .eq 44, .iconst 1, .goto 45] 25 loc stk M) : Wq 202 cd_202 post 25 loc stk M := prefB_run ck_202 _ 25 (by decide +kernel) h
theorem b_202_44 (h : wpl (Wq 202 cd_202 post) post [.iconst 0, .putfield 3245, .aload 0, .iconst 10000, .aload 0, .getfield 2420, .iadd, .invokevirtual 48934, .return_] 44 loc stk M) : Wq 202 cd_202 post 44 loc stk M := prefB_run ck_202 _ 44 (by decide +kernel) h
theorem b_202_45 (h : wpl (Wq 202 cd_202 post) post [.putfield 3245, .aload 0, .iconst 10000, .aload 0, .getfield 2420, .iadd, .invokevirtual 48934, .return_] 45 loc stk M) : Wq 202 cd_202 post 45 loc stk M := prefB_run ck_202 _ 45 (by decide +kernel) h
end
/-! StaticKernel$Rows.takeTop()I -/
set_option maxRecDepth 100000 in
theorem ck_203 : chkM (mt 203) cd_203 = true := by decide +kernel
section
variable {post : Option AV → AMem → Prop} {loc : Lc} {stk : List AV} {M : AMem}
theorem b_203_0 (h : wpl (Wq 203 cd_203 post) post [.aload 0, .dup, .getfield 2808, .iconst 1, .isub, .putfield 2808, .aload 0, .getfield 644286057207, .aload 0, .getfield 2808, .iaload, .ret 0] 0 loc stk M) : Wq 203 cd_203 post 0 loc stk M := prefB_run ck_203 _ 0 (by decide +kernel) h
end
