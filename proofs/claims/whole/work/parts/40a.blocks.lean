/-! StaticKernel.feed(IIIII)Z -/
set_option maxRecDepth 100000 in
theorem ck_114 : chkM (mt 114) cd_114 = true := by decide +kernel
section
variable {post : Option AV → AMem → Prop} {loc : Lc} {stk : List AV} {M : AMem}
theorem b_114_0 (h : wpl (Wq 114 cd_114 post) post [.aload 0, .getfield 4915627, .invokevirtual 29462, .aload 0, .getfield 404, .iconst 20, .iadd, .iconst 4000, .if_icmp .le 11, .iconst 0, .ret 1] 0 loc stk M) : Wq 114 cd_114 post 0 loc stk M := prefB_run ck_114 _ 0 (by decide +kernel) h
theorem b_114_11 (h : wpl (Wq 114 cd_114 post) post [.aload 0, .iload 1, .invokevirtual 31009, .aload 0, .iload 2, .invokevirtual 31009, .aload 0, .iload 3, .invokevirtual 31009, .aload 0, .iload 4, .invokevirtual 31009, .aload 0, .iload 5, .invokevirtual 31009, .iconst 1, .ret 1] 11 loc stk M) : Wq 114 cd_114 post 11 loc stk M := prefB_run ck_114 _ 11 (by decide +kernel) h
end
/-! StaticKernel$Machine.audit()V -/
set_option maxRecDepth 100000 in
theorem ck_115 : chkM (mt 115) cd_115 = true := by decide +kernel
section
variable {post : Option AV → AMem → Prop} {loc : Lc} {stk : List AV} {M : AMem}
theorem b_115_0 (h : wpl (Wq 115 cd_115 post) post [.aload 0, .getfield 2416, .ifCond .gt 6, .aload 0, .getfield 2428, .ifCond .le 7, .return_] 0 loc stk M) : Wq 115 cd_115 post 0 loc stk M := prefB_run ck_115 _ 0 (by decide +kernel) h
theorem b_115_6 (h : wpl (Wq 115 cd_115 post) post [.return_] 6 loc stk M) : Wq 115 cd_115 post 6 loc stk M := prefB_run ck_115 _ 6 (by decide +kernel) h
theorem b_115_7 (h : wpl (Wq 115 cd_115 post) post [.aload 0, .invokevirtual 29718, .ifCond .eq 16, .aload 0, .dup, .getfield 2440, .iconst 1, .iadd, .putfield 2440, .iconst 0, .istore 1] 7 loc stk M) : Wq 115 cd_115 post 7 loc stk M := prefB_run ck_115 _ 7 (by decide +kernel) h
theorem b_115_16 (h : wpl (Wq 115 cd_115 post) post [.iconst 0, .istore 1] 16 loc stk M) : Wq 115 cd_115 post 16 loc stk M := prefB_run ck_115 _ 16 (by decide +kernel) h
theorem b_115_18 (h : wpl (Wq 115 cd_115 post) post [.iload 1, .aload 0, .getfield 4098403, .getfield 11771906003, .iconst 2, .iaload, .if_icmp .ge 45, .aload 0, .getfield 4098403, .getfield 53933672439, .iload 1, .baload, .ifCond .ne 43, .aload 0, .getfield 4098403, .iload 1, .invokevirtual 30501, .iconst 1, .if_icmp .le 43, .aload 0, .dup, .getfield 2444, .iconst 1, .iadd, .putfield 2444, .iinc 1 1, .goto 18] 18 loc stk M) : Wq 115 cd_115 post 18 loc stk M := prefB_run ck_115 _ 18 (by decide +kernel) h
theorem b_115_43 (h : wpl (Wq 115 cd_115 post) post [.iinc 1 1, .goto 18] 43 loc stk M) : Wq 115 cd_115 post 43 loc stk M := prefB_run ck_115 _ 43 (by decide +kernel) h
theorem b_115_45 (h : wpl (Wq 115 cd_115 post) post [.return_] 45 loc stk M) : Wq 115 cd_115 post 45 loc stk M := prefB_run ck_115 _ 45 (by decide +kernel) h
end
/-! StaticKernel$Machine.isTopDue()Z -/
set_option maxRecDepth 100000 in
theorem ck_116 : chkM (mt 116) cd_116 = true := by decide +kernel
section
variable {post : Option AV → AMem → Prop} {loc : Lc} {stk : List AV} {M : AMem}
theorem b_116_0 (h : wpl (Wq 116 cd_116 post) post [.aload 0, .getfield 2420, .iconst (-1), .if_icmp .ne 12, .aload 0, .getfield 5736807, .getfield 2808, .ifCond .le 10, .iconst 1, .goto 11] 0 loc stk M) : Wq 116 cd_116 post 0 loc stk M := prefB_run ck_116 _ 0 (by decide +kernel) h
theorem b_116_10 (h : wpl (Wq 116 cd_116 post) post [.iconst 0, .ret 1] 10 loc stk M) : Wq 116 cd_116 post 10 loc stk M := prefB_run ck_116 _ 10 (by decide +kernel) h
theorem b_116_11 (h : wpl (Wq 116 cd_116 post) post [.ret 1] 11 loc stk M) : Wq 116 cd_116 post 11 loc stk M := prefB_run ck_116 _ 11 (by decide +kernel) h
theorem b_116_12 (h : wpl (Wq 116 cd_116 post) post [.aload 0, .getfield 4098403, .getfield 81191733215, .aload 0, .getfield 2420, .aaload, .astore 1, .aload 1, .getfield 3205, .ifCond .ne 32, .aload 0, .getfield 5736807, .invokevirtual 29975, .aload 0, .getfield 4098403, .aload 1, .invokevirtual 30245, .if_icmp .le 32, .iconst 1, .goto 33] 12 loc stk M) : Wq 116 cd_116 post 12 loc stk M := prefB_run ck_116 _ 12 (by decide +kernel) h
theorem b_116_32 (h : wpl (Wq 116 cd_116 post) post [.iconst 0, .ret 1] 32 loc stk M) : Wq 116 cd_116 post 32 loc stk M := prefB_run ck_116 _ 32 (by decide +kernel) h
theorem b_116_33 (h : wpl (Wq 116 cd_116 post) post [.ret 1] 33 loc stk M) : Wq 116 cd_116 post 33 loc stk M := prefB_run ck_116 _ 33 (by decide +kernel) h
end
/-! StaticKernel$Rows.topRow()I -/
set_option maxRecDepth 100000 in
theorem ck_117 : chkM (mt 117) cd_117 = true := by decide +kernel
section
variable {post : Option AV → AMem → Prop} {loc : Lc} {stk : List AV} {M : AMem}
theorem b_117_0 (h : wpl (Wq 117 cd_117 post) post [.aload 0, .getfield 2808, .ifCond .le 11, .aload 0, .getfield 644285238003, .aload 0, .getfield 2808, .iconst 1, .isub, .iaload, .goto 12] 0 loc stk M) : Wq 117 cd_117 post 0 loc stk M := prefB_run ck_117 _ 0 (by decide +kernel) h
theorem b_117_11 (h : wpl (Wq 117 cd_117 post) post [.iconst (-1), .ret 0] 11 loc stk M) : Wq 117 cd_117 post 11 loc stk M := prefB_run ck_117 _ 11 (by decide +kernel) h
theorem b_117_12 (h : wpl (Wq 117 cd_117 post) post [.ret 0] 12 loc stk M) : Wq 117 cd_117 post 12 loc stk M := prefB_run ck_117 _ 12 (by decide +kernel) h
end
/-! StaticKernel$Plan.currentPriority(LStaticKernel$Worker;)I -/
set_option maxRecDepth 100000 in
theorem ck_118 : chkM (mt 118) cd_118 = true := by decide +kernel
section
variable {post : Option AV → AMem → Prop} {loc : Lc} {stk : List AV} {M : AMem}
theorem b_118_0 (h : wpl (Wq 118 cd_118 post) post [.aload 1, .getfield 3200, .istore 2, .iconst 0, .istore 3] 0 loc stk M) : Wq 118 cd_118 post 0 loc stk M := prefB_run ck_118 _ 0 (by decide +kernel) h
theorem b_118_5 (h : wpl (Wq 118 cd_118 post) post [.iload 3, .aload 1, .getfield 3256, .if_icmp .ge 21, .iload 2, .aload 0, .getfield 53722318831, .aload 1, .getfield 53728873655, .iload 3, .iaload, .iaload, .invokestatic 32, .istore 2, .iinc 3 1, .goto 5] 5 loc stk M) : Wq 118 cd_118 post 5 loc stk M := prefB_run ck_118 _ 5 (by decide +kernel) h
theorem b_118_21 (h : wpl (Wq 118 cd_118 post) post [.aload 1, .getfield 3245, .ifCond .eq 36, .aload 1, .getfield 3224, .iconst (-1), .if_icmp .eq 36, .iload 2, .aload 0, .getfield 53722318831, .aload 1, .getfield 3224, .iaload, .invokestatic 32, .istore 2, .iload 2, .ret 0] 21 loc stk M) : Wq 118 cd_118 post 21 loc stk M := prefB_run ck_118 _ 21 (by decide +kernel) h
theorem b_118_36 (h : wpl (Wq 118 cd_118 post) post [.iload 2, .ret 0] 36 loc stk M) : Wq 118 cd_118 post 36 loc stk M := prefB_run ck_118 _ 36 (by decide +kernel) h
end
/-! StaticKernel$Plan.holders(I)I -/
set_option maxRecDepth 100000 in
theorem ck_119 : chkM (mt 119) cd_119 = true := by decide +kernel
section
variable {post : Option AV → AMem → Prop} {loc : Lc} {stk : List AV} {M : AMem}
theorem b_119_0 (h : wpl (Wq 119 cd_119 post) post [.iconst 0, .istore 2, .iconst 0, .istore 3] 0 loc stk M) : Wq 119 cd_119 post 0 loc stk M := prefB_run ck_119 _ 0 (by decide +kernel) h
theorem b_119_4 (h : wpl (Wq 119 cd_119 post) post [.iload 3, .aload 0, .getfield 11771906003, .iconst 4, .iaload, .if_icmp .ge 25, .iload 2, .aload 0, .getfield 81191733215, .iload 3, .aaload, .iload 1, .invokevirtual 30760, .ifCond .eq 20, .iconst 1, .goto 21] 4 loc stk M) : Wq 119 cd_119 post 4 loc stk M := prefB_run ck_119 _ 4 (by decide +kernel) h
theorem b_119_20 (h : wpl (Wq 119 cd_119 post) post [.iconst 0, .iadd, .istore 2, .iinc 3 1, .goto 4] 20 loc stk M) : Wq 119 cd_119 post 20 loc stk M := prefB_run ck_119 _ 20 (by decide +kernel) h
theorem b_119_21 (h : wpl (Wq 119 cd_119 post) post [.iadd, .istore 2, .iinc 3 1, .goto 4] 21 loc stk M) : Wq 119 cd_119 post 21 loc stk M := prefB_run ck_119 _ 21 (by decide +kernel) h
theorem b_119_25 (h : wpl (Wq 119 cd_119 post) post [.iconst 0, .istore 3] 25 loc stk M) : Wq 119 cd_119 post 25 loc stk M := prefB_run ck_119 _ 25 (by decide +kernel) h
theorem b_119_27 (h : wpl (Wq 119 cd_119 post) post [.iload 3, .aload 0, .getfield 11771906003, .iconst 5, .iaload, .if_icmp .ge 48, .iload 2, .aload 0, .getfield 27505461219, .iload 3, .aaload, .iload 1, .invokevirtual 30760, .ifCond .eq 43, .iconst 1, .goto 44] 27 loc stk M) : Wq 119 cd_119 post 27 loc stk M := prefB_run ck_119 _ 27 (by decide +kernel) h
theorem b_119_43 (h : wpl (Wq 119 cd_119 post) post [.iconst 0, .iadd, .istore 2, .iinc 3 1, .goto 27] 43 loc stk M) : Wq 119 cd_119 post 43 loc stk M := prefB_run ck_119 _ 43 (by decide +kernel) h
theorem b_119_44 (h : wpl (Wq 119 cd_119 post) post [.iadd, .istore 2, .iinc 3 1, .goto 27] 44 loc stk M) : Wq 119 cd_119 post 44 loc stk M := prefB_run ck_119 _ 44 (by decide +kernel) h
theorem b_119_48 (h : wpl (Wq 119 cd_119 post) post [.iload 2, .ret 0] 48 loc stk M) : Wq 119 cd_119 post 48 loc stk M := prefB_run ck_119 _ 48 (by decide +kernel) h
end
/-! StaticKernel$Worker.hasResource(I)Z -/
set_option maxRecDepth 100000 in
theorem ck_120 : chkM (mt 120) cd_120 = true := by decide +kernel
section
variable {post : Option AV → AMem → Prop} {loc : Lc} {stk : List AV} {M : AMem}
theorem b_120_0 (h : wpl (Wq 120 cd_120 post) post [.iconst 0, .istore 2] 0 loc stk M) : Wq 120 cd_120 post 0 loc stk M := prefB_run ck_120 _ 0 (by decide +kernel) h
theorem b_120_2 (h : wpl (Wq 120 cd_120 post) post [.iload 2, .aload 0, .getfield 3256, .if_icmp .ge 16, .aload 0, .getfield 53728873655, .iload 2, .iaload, .iload 1, .if_icmp .ne 14, .iconst 1, .ret 1] 2 loc stk M) : Wq 120 cd_120 post 2 loc stk M := prefB_run ck_120 _ 2 (by decide +kernel) h
theorem b_120_14 (h : wpl (Wq 120 cd_120 post) post [.iinc 2 1, .goto 2] 14 loc stk M) : Wq 120 cd_120 post 14 loc stk M := prefB_run ck_120 _ 14 (by decide +kernel) h
theorem b_120_16 (h : wpl (Wq 120 cd_120 post) post [.aload 0, .getfield 3245, .ifCond .eq 25, .aload 0, .getfield 3224, .iload 1, .if_icmp .ne 25, .iconst 1, .goto 26] 16 loc stk M) : Wq 120 cd_120 post 16 loc stk M := prefB_run ck_120 _ 16 (by decide +kernel) h
theorem b_120_25 (h : wpl (Wq 120 cd_120 post) post [.iconst 0, .ret 1] 25 loc stk M) : Wq 120 cd_120 post 25 loc stk M := prefB_run ck_120 _ 25 (by decide +kernel) h
theorem b_120_26 (h : wpl (Wq 120 cd_120 post) post [.ret 1] 26 loc stk M) : Wq 120 cd_120 post 26 loc stk M := prefB_run ck_120 _ 26 (by decide +kernel) h
end
/-! StaticKernel.putFourBytes(I)V -/
set_option maxRecDepth 100000 in
theorem ck_121 : chkM (mt 121) cd_121 = true := by decide +kernel
section
variable {post : Option AV → AMem → Prop} {loc : Lc} {stk : List AV} {M : AMem}
theorem b_121_0 (h : wpl (Wq 121 cd_121 post) post [.iconst 24, .istore 2] 0 loc stk M) : Wq 121 cd_121 post 0 loc stk M := prefB_run ck_121 _ 0 (by decide +kernel) h
theorem b_121_2 (h : wpl (Wq 121 cd_121 post) post [.iload 2, .ifCond .lt 27, .aload 0, .getfield 404, .iconst 4000, .if_icmp .ge 27, .aload 0, .getfield 6711951360403, .aload 0, .getfield 404, .iload 1, .iload 2, .iushr, .iconst 255, .iand, .i2c, .castore, .aload 0, .dup, .getfield 404, .iconst 1, .iadd, .putfield 404, .iinc 2 (-8), .goto 2] 2 loc stk M) : Wq 121 cd_121 post 2 loc stk M := prefB_run ck_121 _ 2 (by decide +kernel) h
theorem b_121_27 (h : wpl (Wq 121 cd_121 post) post [.return_] 27 loc stk M) : Wq 121 cd_121 post 27 loc stk M := prefB_run ck_121 _ 27 (by decide +kernel) h
end
/-! StaticKernel.build(I)I -/
set_option maxRecDepth 100000 in
theorem ck_122 : chkM (mt 122) cd_122 = true := by decide +kernel
section
variable {post : Option AV → AMem → Prop} {loc : Lc} {stk : List AV} {M : AMem}
theorem b_122_0 (h : wpl (Wq 122 cd_122 post) post [.aload 0, .getfield 4915627, .invokevirtual 29462, .aload 0, .getfield 4915627, .getfield 2409, .ifCond .ne 13, .iload 1, .ifCond .lt 13, .iload 1, .aload 0, .getfield 404, .if_icmp .le 15, .iconst (-2), .ret 0] 0 loc stk M) : Wq 122 cd_122 post 0 loc stk M := prefB_run ck_122 _ 0 (by decide +kernel) h
theorem b_122_13 (h : wpl (Wq 122 cd_122 post) post [.iconst (-2), .ret 0] 13 loc stk M) : Wq 122 cd_122 post 13 loc stk M := prefB_run ck_122 _ 13 (by decide +kernel) h
theorem b_122_15 (h : wpl (Wq 122 cd_122 post) post [.aload 0, .iconst 0, .putfield 404, .aload 0, .getfield 1638811, .aload 0, .getfield 6711951360403, .iload 1, .invokevirtual 31538, .aload 0, .getfield 3277219, .aload 0, .getfield 2458015, .invokevirtual 34579, .invokevirtual 38692, .aload 0, .getfield 3277219, .getfield 1608, .ifCond .eq 36, .iconst (-1), .ret 0] 15 loc stk M) : Wq 122 cd_122 post 15 loc stk M := prefB_run ck_122 _ 15 (by decide +kernel) h
theorem b_122_36 (h : wpl (Wq 122 cd_122 post) post [.aload 0, .getfield 4096423, .aload 0, .getfield 2458015, .invokevirtual 43301, .aload 0, .getfield 4915627, .invokevirtual 47382, .iconst 0, .ret 0] 36 loc stk M) : Wq 122 cd_122 post 36 loc stk M := prefB_run ck_122 _ 36 (by decide +kernel) h
end
/-! StaticKernel$Tokens.read([CI)V -/
set_option maxRecDepth 100000 in
theorem ck_123 : chkM (mt 123) cd_123 = true := by decide +kernel
section
variable {post : Option AV → AMem → Prop} {loc : Lc} {stk : List AV} {M : AMem}
theorem b_123_0 (h : wpl (Wq 123 cd_123 post) post [.aload 0, .iconst 0, .putfield 820, .iconst 0, .istore 3, .iconst 0, .istore 4] 0 loc stk M) : Wq 123 cd_123 post 0 loc stk M := prefB_run ck_123 _ 0 (by decide +kernel) h
theorem b_123_7 (h : wpl (Wq 123 cd_123 post) post [.iload 4, .iload 2, .if_icmp .ge 35, .iload 4, .iload 3, .if_icmp .ge 14, .goto 33] 7 loc stk M) : Wq 123 cd_123 post 7 loc stk M := prefB_run ck_123 _ 7 (by decide +kernel) h
theorem b_123_14 (h : wpl (Wq 123 cd_123 post) post [.aload 0, .aload 1, .iload 4, .iload 2, .invokevirtual 31810, .istore 3, .aload 0, .getfield 820, .ifCond .le 33, .aload 0, .getfield 6713210471203, .aload 0, .getfield 820, .iconst 1, .isub, .aaload, .getstatic 768, .if_acmp .ne 33, .return_] 14 loc stk M) : Wq 123 cd_123 post 14 loc stk M := prefB_run ck_123 _ 14 (by decide +kernel) h
theorem b_123_33 (h : wpl (Wq 123 cd_123 post) post [.iinc 4 1, .goto 7] 33 loc stk M) : Wq 123 cd_123 post 33 loc stk M := prefB_run ck_123 _ 33 (by decide +kernel) h
theorem b_123_35 (h : wpl (Wq 123 cd_123 post) post [.aload 0, .getstatic 769, .iload 2, .invokevirtual 33330, .return_] 35 loc stk M) : Wq 123 cd_123 post 35 loc stk M := prefB_run ck_123 _ 35 (by decide +kernel) h
end
/-! StaticKernel$Tokens.readOne([CII)I -/
set_option maxRecDepth 100000 in
theorem ck_124 : chkM (mt 124) cd_124 = true := by decide +kernel
section
variable {post : Option AV → AMem → Prop} {loc : Lc} {stk : List AV} {M : AMem}
theorem b_124_0 (h : wpl (Wq 124 cd_124 post) post [.aload 1, .iload 2, .caload, .istore 4, .iload 4, .iconst 32, .if_icmp .eq 10, .iload 4, .iconst 10, .if_icmp .ne 14, .iload 2, .iconst 1, .iadd, .ret 0] 0 loc stk M) : Wq 124 cd_124 post 0 loc stk M := prefB_run ck_124 _ 0 (by decide +kernel) h
theorem b_124_10 (h : wpl (Wq 124 cd_124 post) post [.iload 2, .iconst 1, .iadd, .ret 0] 10 loc stk M) : Wq 124 cd_124 post 10 loc stk M := prefB_run ck_124 _ 10 (by decide +kernel) h
theorem b_124_14 (h : wpl (Wq 124 cd_124 post) post [.iload 4, .iconst 35, .if_icmp .ne 22, .aload 1, .iload 2, .iload 3, .invokestatic 32048, .ret 0] 14 loc stk M) : Wq 124 cd_124 post 14 loc stk M := prefB_run ck_124 _ 14 (by decide +kernel) h
theorem b_124_22 (h : wpl (Wq 124 cd_124 post) post [.iload 4, .invokestatic 32272, .ifCond .eq 31, .aload 0, .aload 1, .iload 2, .iload 3, .invokevirtual 32578, .ret 0] 22 loc stk M) : Wq 124 cd_124 post 22 loc stk M := prefB_run ck_124 _ 22 (by decide +kernel) h
theorem b_124_31 (h : wpl (Wq 124 cd_124 post) post [.iload 4, .invokestatic 33040, .ifCond .eq 40, .aload 0, .aload 1, .iload 2, .iload 3, .invokevirtual 34370, .ret 0] 31 loc stk M) : Wq 124 cd_124 post 31 loc stk M := prefB_run ck_124 _ 31 (by decide +kernel) h
theorem b_124_40 (h : wpl (Wq 124 cd_124 post) post [.aload 0, .iload 4, .iconst 44, .if_icmp .ne 46, .getstatic 770, .goto 47] 40 loc stk M) : Wq 124 cd_124 post 40 loc stk M := prefB_run ck_124 _ 40 (by decide +kernel) h
theorem b_124_46 (h : wpl (Wq 124 cd_124 post) post [.getstatic 768, .iload 2, .invokevirtual 33330, .iload 2, .iconst 1, .iadd, .ret 0] 46 loc stk M) : Wq 124 cd_124 post 46 loc stk M := prefB_run ck_124 _ 46 (by decide +kernel) h
theorem b_124_47 (h : wpl (Wq 124 cd_124 post) post [.iload 2, .invokevirtual 33330, .iload 2, .iconst 1, .iadd, .ret 0] 47 loc stk M) : Wq 124 cd_124 post 47 loc stk M := prefB_run ck_124 _ 47 (by decide +kernel) h
end
/-! StaticKernel$Tokens.endOfNote([CII)I -/
set_option maxRecDepth 100000 in
theorem ck_125 : chkM (mt 125) cd_125 = true := by decide +kernel
section
variable {post : Option AV → AMem → Prop} {loc : Lc} {stk : List AV} {M : AMem}
theorem b_125_0 (h : wpl (Wq 125 cd_125 post) post [.iload 1, .istore 3] 0 loc stk M) : Wq 125 cd_125 post 0 loc stk M := prefB_run ck_125 _ 0 (by decide +kernel) h
theorem b_125_2 (h : wpl (Wq 125 cd_125 post) post [.iload 3, .iload 2, .if_icmp .ge 14, .aload 0, .iload 3, .caload, .iconst 10, .if_icmp .ne 12, .iload 3, .ret 0] 2 loc stk M) : Wq 125 cd_125 post 2 loc stk M := prefB_run ck_125 _ 2 (by decide +kernel) h
theorem b_125_12 (h : wpl (Wq 125 cd_125 post) post [.iinc 3 1, .goto 2] 12 loc stk M) : Wq 125 cd_125 post 12 loc stk M := prefB_run ck_125 _ 12 (by decide +kernel) h
theorem b_125_14 (h : wpl (Wq 125 cd_125 post) post [.iload 2, .ret 0] 14 loc stk M) : Wq 125 cd_125 post 14 loc stk M := prefB_run ck_125 _ 14 (by decide +kernel) h
end
/-! StaticKernel$Tokens.isLetter(C)Z -/
set_option maxRecDepth 100000 in
theorem ck_126 : chkM (mt 126) cd_126 = true := by decide +kernel
section
variable {post : Option AV → AMem → Prop} {loc : Lc} {stk : List AV} {M : AMem}
theorem b_126_0 (h : wpl (Wq 126 cd_126 post) post [.iload 0, .iconst 97, .if_icmp .lt 8, .iload 0, .iconst 122, .if_icmp .gt 8, .iconst 1, .goto 9] 0 loc stk M) : Wq 126 cd_126 post 0 loc stk M := prefB_run ck_126 _ 0 (by decide +kernel) h
theorem b_126_8 (h : wpl (Wq 126 cd_126 post) post [.iconst 0, .ret 1] 8 loc stk M) : Wq 126 cd_126 post 8 loc stk M := prefB_run ck_126 _ 8 (by decide +kernel) h
theorem b_126_9 (h : wpl (Wq 126 cd_126 post) post [.ret 1] 9 loc stk M) : Wq 126 cd_126 post 9 loc stk M := prefB_run ck_126 _ 9 (by decide +kernel) h
end
/-! StaticKernel$Tokens.readName([CII)I -/
set_option maxRecDepth 100000 in
theorem ck_127 : chkM (mt 127) cd_127 = true := by decide +kernel
section
variable {post : Option AV → AMem → Prop} {loc : Lc} {stk : List AV} {M : AMem}
theorem b_127_0 (h : wpl (Wq 127 cd_127 post) post [.iload 2, .istore 4] 0 loc stk M) : Wq 127 cd_127 post 0 loc stk M := prefB_run ck_127 _ 0 (by decide +kernel) h
theorem b_127_2 (h : wpl (Wq 127 cd_127 post) post [.iload 4, .iload 3, .if_icmp .ge 12, .aload 1, .iload 4, .caload, .invokestatic 32784, .ifCond .eq 12, .iinc 4 1, .goto 2] 2 loc stk M) : Wq 127 cd_127 post 2 loc stk M := prefB_run ck_127 _ 2 (by decide +kernel) h
theorem b_127_12 (h : wpl (Wq 127 cd_127 post) post [.iload 4, .iload 2, .isub, .iconst 12, .if_icmp .le 23, .aload 0, .getstatic 768, .iload 2, .invokevirtual 33330, .iload 4, .ret 0] 12 loc stk M) : Wq 127 cd_127 post 12 loc stk M := prefB_run ck_127 _ 12 (by decide +kernel) h
theorem b_127_23 (h : wpl (Wq 127 cd_127 post) post [.aload 0, .getfield 6713003213615, .aload 0, .getfield 820, .aload 1, .iload 2, .iload 4, .invokestatic 33584, .lastore, .aload 0, .getfield 6713004032819, .aload 0, .getfield 820, .aload 1, .iload 2, .iconst 8, .iadd, .iload 4, .invokestatic 33584, .lastore, .aload 0, .aload 1, .iload 2, .iload 4, .invokestatic 33840, .iload 2, .invokevirtual 33330, .iload 4, .ret 0] 23 loc stk M) : Wq 127 cd_127 post 23 loc stk M := prefB_run ck_127 _ 23 (by decide +kernel) h
end
/-! StaticKernel$Tokens.isNamePart(C)Z -/
set_option maxRecDepth 100000 in
theorem ck_128 : chkM (mt 128) cd_128 = true := by decide +kernel
section
variable {post : Option AV → AMem → Prop} {loc : Lc} {stk : List AV} {M : AMem}
theorem b_128_0 (h : wpl (Wq 128 cd_128 post) post [.iload 0, .invokestatic 32272, .ifCond .ne 9, .iload 0, .invokestatic 33040, .ifCond .ne 9, .iload 0, .iconst 95, .if_icmp .ne 11, .iconst 1, .goto 12] 0 loc stk M) : Wq 128 cd_128 post 0 loc stk M := prefB_run ck_128 _ 0 (by decide +kernel) h
theorem b_128_9 (h : wpl (Wq 128 cd_128 post) post [.iconst 1, .goto 12] 9 loc stk M) : Wq 128 cd_128 post 9 loc stk M := prefB_run ck_128 _ 9 (by decide +kernel) h
theorem b_128_11 (h : wpl (Wq 128 cd_128 post) post [.iconst 0, .ret 1] 11 loc stk M) : Wq 128 cd_128 post 11 loc stk M := prefB_run ck_128 _ 11 (by decide +kernel) h
theorem b_128_12 (h : wpl (Wq 128 cd_128 post) post [.ret 1] 12 loc stk M) : Wq 128 cd_128 post 12 loc stk M := prefB_run ck_128 _ 12 (by decide +kernel) h
end
/-! StaticKernel$Tokens.isDigit(C)Z -/
set_option maxRecDepth 100000 in
theorem ck_129 : chkM (mt 129) cd_129 = true := by decide +kernel
section
variable {post : Option AV → AMem → Prop} {loc : Lc} {stk : List AV} {M : AMem}
theorem b_129_0 (h : wpl (Wq 129 cd_129 post) post [.iload 0, .iconst 48, .if_icmp .lt 8, .iload 0, .iconst 57, .if_icmp .gt 8, .iconst 1, .goto 9] 0 loc stk M) : Wq 129 cd_129 post 0 loc stk M := prefB_run ck_129 _ 0 (by decide +kernel) h
theorem b_129_8 (h : wpl (Wq 129 cd_129 post) post [.iconst 0, .ret 1] 8 loc stk M) : Wq 129 cd_129 post 8 loc stk M := prefB_run ck_129 _ 8 (by decide +kernel) h
theorem b_129_9 (h : wpl (Wq 129 cd_129 post) post [.ret 1] 9 loc stk M) : Wq 129 cd_129 post 9 loc stk M := prefB_run ck_129 _ 9 (by decide +kernel) h
end
/-! StaticKernel$Tokens.add(LStaticKernel$Kind;I)V -/
set_option maxRecDepth 100000 in
theorem ck_130 : chkM (mt 130) cd_130 = true := by decide +kernel
section
variable {post : Option AV → AMem → Prop} {loc : Lc} {stk : List AV} {M : AMem}
theorem b_130_0 (h : wpl (Wq 130 cd_130 post) post [.aload 0, .getfield 6713210471203, .aload 0, .getfield 820, .aload 1, .aastore, .aload 0, .getfield 6712582144807, .aload 0, .getfield 820, .iload 2, .iastore, .aload 0, .dup, .getfield 820, .iconst 1, .iadd, .putfield 820, .return_] 0 loc stk M) : Wq 130 cd_130 post 0 loc stk M := prefB_run ck_130 _ 0 (by decide +kernel) h
end
/-! StaticKernel$Tokens.packed([CII)J -/
set_option maxRecDepth 100000 in
theorem ck_131 : chkM (mt 131) cd_131 = true := by decide +kernel
section
variable {post : Option AV → AMem → Prop} {loc : Lc} {stk : List AV} {M : AMem}
theorem b_131_0 (h : wpl (Wq 131 cd_131 post) post [.ldc2_w 0, .lstore 3, .iload 1, .istore 5] 0 loc stk M) : Wq 131 cd_131 post 0 loc stk M := prefB_run ck_131 _ 0 (by decide +kernel) h
theorem b_131_4 (h : wpl (Wq 131 cd_131 post) post [.iload 5, .iload 1, .iconst 8, .iadd, .if_icmp .ge 25, .lload 3, .iconst 8, .lshl, .iload 5, .iload 2, .if_icmp .ge 19, .aload 0, .iload 5, .caload, .goto 20] 4 loc stk M) : Wq 131 cd_131 post 4 loc stk M := prefB_run ck_131 _ 4 (by decide +kernel) h
theorem b_131_19 (h : wpl (Wq 131 cd_131 post) post [.iconst 0, .i2l, .lor, .lstore 3, .iinc 5 1, .goto 4] 19 loc stk M) : Wq 131 cd_131 post 19 loc stk M := prefB_run ck_131 _ 19 (by decide +kernel) h
theorem b_131_20 (h : wpl (Wq 131 cd_131 post) post [.i2l, .lor, .lstore 3, .iinc 5 1, .goto 4] 20 loc stk M) : Wq 131 cd_131 post 20 loc stk M := prefB_run ck_131 _ 20 (by decide +kernel) h
theorem b_131_25 (h : wpl (Wq 131 cd_131 post) post [.lload 3, .lreturn] 25 loc stk M) : Wq 131 cd_131 post 25 loc stk M := prefB_run ck_131 _ 25 (by decide +kernel) h
end
/-! StaticKernel$Tokens.wordOrName([CII)LStaticKernel$Kind; -/
set_option maxRecDepth 100000 in
theorem ck_132 : chkM (mt 132) cd_132 = true := by decide +kernel
section
variable {post : Option AV → AMem → Prop} {loc : Lc} {stk : List AV} {M : AMem}
theorem b_132_0 (h : wpl (Wq 132 cd_132 post) post [.getstatic 3988992, .astore 3, .aload 3, .arraylength, .istore 4, .iconst 0, .istore 5] 0 loc stk M) : Wq 132 cd_132 post 0 loc stk M := prefB_run ck_132 _ 0 (by decide +kernel) h
theorem b_132_7 (h : wpl (Wq 132 cd_132 post) post [.iload 5, .iload 4, .if_icmp .ge 25, .aload 3, .iload 5, .aaload, .astore 6, .aload 6, .checkcast 100, .aload 0, .iload 1, .iload 2, .invokestatic 34112, .ifCond .eq 23, .aload 6, .areturn] 7 loc stk M) : Wq 132 cd_132 post 7 loc stk M := prefB_run ck_132 _ 7 (by decide +kernel) h
theorem b_132_23 (h : wpl (Wq 132 cd_132 post) post [.iinc 5 1, .goto 7] 23 loc stk M) : Wq 132 cd_132 post 23 loc stk M := prefB_run ck_132 _ 23 (by decide +kernel) h
theorem b_132_25 (h : wpl (Wq 132 cd_132 post) post [.getstatic 772, .areturn] 25 loc stk M) : Wq 132 cd_132 post 25 loc stk M := prefB_run ck_132 _ 25 (by decide +kernel) h
end
/-! StaticKernel$Tokens.isText(Ljava/lang/String;[CII)Z -/
set_option maxRecDepth 100000 in
theorem ck_133 : chkM (mt 133) cd_133 = true := by decide +kernel
section
variable {post : Option AV → AMem → Prop} {loc : Lc} {stk : List AV} {M : AMem}
theorem b_133_0 (h : wpl (Wq 133 cd_133 post) post [.aload 0, .instanceof 0, .iload 3, .iload 2, .isub, .if_icmp .eq 8, .iconst 0, .ret 1] 0 loc stk M) : Wq 133 cd_133 post 0 loc stk M := prefB_run ck_133 _ 0 (by decide +kernel) h
theorem b_133_8 (h : wpl (Wq 133 cd_133 post) post [.iload 2, .istore 4] 8 loc stk M) : Wq 133 cd_133 post 8 loc stk M := prefB_run ck_133 _ 8 (by decide +kernel) h
theorem b_133_10 (h : wpl (Wq 133 cd_133 post) post [.iload 4, .iload 3, .if_icmp .ge 26, .aload 0, .iload 4, .iload 2, .isub, .instanceof 1, .aload 1, .iload 4, .caload, .if_icmp .eq 24, .iconst 0, .ret 1] 10 loc stk M) : Wq 133 cd_133 post 10 loc stk M := prefB_run ck_133 _ 10 (by decide +kernel) h
theorem b_133_24 (h : wpl (Wq 133 cd_133 post) post [.iinc 4 1, .goto 10] 24 loc stk M) : Wq 133 cd_133 post 24 loc stk M := prefB_run ck_133 _ 24 (by decide +kernel) h
theorem b_133_26 (h : wpl (Wq 133 cd_133 post) post [.iconst 1, .ret 1] 26 loc stk M) : Wq 133 cd_133 post 26 loc stk M := prefB_run ck_133 _ 26 (by decide +kernel) h
end
/-! StaticKernel$Tokens.readNumber([CII)I -/
set_option maxRecDepth 100000 in
theorem ck_134 : chkM (mt 134) cd_134 = true := by decide +kernel
section
variable {post : Option AV → AMem → Prop} {loc : Lc} {stk : List AV} {M : AMem}
theorem b_134_0 (h : wpl (Wq 134 cd_134 post) post [.iload 2, .istore 4, .iconst 0, .istore 5] 0 loc stk M) : Wq 134 cd_134 post 0 loc stk M := prefB_run ck_134 _ 0 (by decide +kernel) h
theorem b_134_4 (h : wpl (Wq 134 cd_134 post) post [.iload 4, .iload 3, .if_icmp .ge 26, .aload 1, .iload 4, .caload, .invokestatic 33040, .ifCond .eq 26, .iload 5, .iconst 10, .imul, .aload 1, .iload 4, .caload, .iadd, .iconst 48, .isub, .iconst 65536, .invokestatic 288, .istore 5, .iinc 4 1, .goto 4] 4 loc stk M) : Wq 134 cd_134 post 4 loc stk M := prefB_run ck_134 _ 4 (by decide +kernel) h
theorem b_134_26 (h : wpl (Wq 134 cd_134 post) post [.iload 4, .iload 3, .if_icmp .ge 36, .aload 1, .iload 4, .caload, .invokestatic 32784, .ifCond .eq 36, .iconst 1, .goto 37] 26 loc stk M) : Wq 134 cd_134 post 26 loc stk M := prefB_run ck_134 _ 26 (by decide +kernel) h
theorem b_134_36 (h : wpl (Wq 134 cd_134 post) post [.iconst 0, .istore 6, .aload 0, .getfield 6712582964011, .aload 0, .getfield 820, .iload 5, .iastore, .aload 0, .iload 6, .ifCond .ne 50, .iload 5, .iconst 65535, .if_icmp .le 52, .getstatic 768, .goto 53] 36 loc stk M) : Wq 134 cd_134 post 36 loc stk M := prefB_run ck_134 _ 36 (by decide +kernel) h
theorem b_134_37 (h : wpl (Wq 134 cd_134 post) post [.istore 6, .aload 0, .getfield 6712582964011, .aload 0, .getfield 820, .iload 5, .iastore, .aload 0, .iload 6, .ifCond .ne 50, .iload 5, .iconst 65535, .if_icmp .le 52, .getstatic 768, .goto 53] 37 loc stk M) : Wq 134 cd_134 post 37 loc stk M := prefB_run ck_134 _ 37 (by decide +kernel) h
theorem b_134_50 (h : wpl (Wq 134 cd_134 post) post [.getstatic 768, .goto 53] 50 loc stk M) : Wq 134 cd_134 post 50 loc stk M := prefB_run ck_134 _ 50 (by decide +kernel) h
theorem b_134_52 (h : wpl (Wq 134 cd_134 post) post [.getstatic 771, .iload 2, .invokevirtual 33330, .iload 4, .ret 0] 52 loc stk M) : Wq 134 cd_134 post 52 loc stk M := prefB_run ck_134 _ 52 (by decide +kernel) h
theorem b_134_53 (h : wpl (Wq 134 cd_134 post) post [.iload 2, .invokevirtual 33330, .iload 4, .ret 0] 53 loc stk M) : Wq 134 cd_134 post 53 loc stk M := prefB_run ck_134 _ 53 (by decide +kernel) h
end
/-! StaticKernel$Outline.firstBad()I -/
set_option maxRecDepth 100000 in
theorem ck_135 : chkM (mt 135) cd_135 = true := by decide +kernel
section
variable {post : Option AV → AMem → Prop} {loc : Lc} {stk : List AV} {M : AMem}
theorem b_135_0 (h : wpl (Wq 135 cd_135 post) post [.aload 0, .invokevirtual 34835, .iconst 0, .istore 1] 0 loc stk M) : Wq 135 cd_135 post 0 loc stk M := prefB_run ck_135 _ 0 (by decide +kernel) h
theorem b_135_4 (h : wpl (Wq 135 cd_135 post) post [.iload 1, .iconst 667, .if_icmp .ge 35, .aload 0, .getfield 1639603, .aload 0, .getfield 1240, .invokevirtual 35106, .getstatic 769, .if_acmp .eq 35, .aload 0, .invokevirtual 35347, .ifCond .ne 24, .aload 0, .getfield 1639603, .getfield 6712582144807, .aload 0, .getfield 1240, .iaload, .ret 0] 4 loc stk M) : Wq 135 cd_135 post 4 loc stk M := prefB_run ck_135 _ 4 (by decide +kernel) h
theorem b_135_24 (h : wpl (Wq 135 cd_135 post) post [.aload 0, .getfield 1119066522831, .aload 0, .getfield 1236, .iconst 1, .isub, .aload 0, .getfield 1240, .iastore, .iinc 1 1, .goto 4] 24 loc stk M) : Wq 135 cd_135 post 24 loc stk M := prefB_run ck_135 _ 24 (by decide +kernel) h
theorem b_135_35 (h : wpl (Wq 135 cd_135 post) post [.aload 0, .invokevirtual 37907, .iconst (-1), .ret 0] 35 loc stk M) : Wq 135 cd_135 post 35 loc stk M := prefB_run ck_135 _ 35 (by decide +kernel) h
end
/-! StaticKernel$Outline.forget()V -/
set_option maxRecDepth 100000 in
theorem ck_136 : chkM (mt 136) cd_136 = true := by decide +kernel
section
variable {post : Option AV → AMem → Prop} {loc : Lc} {stk : List AV} {M : AMem}
theorem b_136_0 (h : wpl (Wq 136 cd_136 post) post [.iconst 0, .istore 1] 0 loc stk M) : Wq 136 cd_136 post 0 loc stk M := prefB_run ck_136 _ 0 (by decide +kernel) h
theorem b_136_2 (h : wpl (Wq 136 cd_136 post) post [.iload 1, .iconst 7, .if_icmp .ge 12, .aload 0, .getfield 11771086035, .iload 1, .iconst 0, .iastore, .iinc 1 1, .goto 2] 2 loc stk M) : Wq 136 cd_136 post 2 loc stk M := prefB_run ck_136 _ 2 (by decide +kernel) h
theorem b_136_12 (h : wpl (Wq 136 cd_136 post) post [.aload 0, .getfield 11771086035, .iconst 2, .iconst 1, .iastore, .aload 0, .iconst 0, .putfield 1236, .aload 0, .iconst 0, .putfield 1240, .return_] 12 loc stk M) : Wq 136 cd_136 post 12 loc stk M := prefB_run ck_136 _ 12 (by decide +kernel) h
end
/-! StaticKernel$Tokens.kindAt(I)LStaticKernel$Kind; -/
set_option maxRecDepth 100000 in
theorem ck_137 : chkM (mt 137) cd_137 = true := by decide +kernel
section
variable {post : Option AV → AMem → Prop} {loc : Lc} {stk : List AV} {M : AMem}
theorem b_137_0 (h : wpl (Wq 137 cd_137 post) post [.iload 1, .aload 0, .getfield 820, .if_icmp .ge 9, .aload 0, .getfield 6713210471203, .iload 1, .aaload, .goto 10] 0 loc stk M) : Wq 137 cd_137 post 0 loc stk M := prefB_run ck_137 _ 0 (by decide +kernel) h
theorem b_137_9 (h : wpl (Wq 137 cd_137 post) post [.getstatic 769, .areturn] 9 loc stk M) : Wq 137 cd_137 post 9 loc stk M := prefB_run ck_137 _ 9 (by decide +kernel) h
theorem b_137_10 (h : wpl (Wq 137 cd_137 post) post [.areturn] 10 loc stk M) : Wq 137 cd_137 post 10 loc stk M := prefB_run ck_137 _ 10 (by decide +kernel) h
end
/-! StaticKernel$Outline.readItem()Z -/
set_option maxRecDepth 100000 in
theorem ck_138 : chkM (mt 138) cd_138 = true := by decide +kernel
section
variable {post : Option AV → AMem → Prop} {loc : Lc} {stk : List AV} {M : AMem}
theorem b_138_0 (h : wpl (Wq 138 cd_138 post) post [.getstatic 3939968, .aload 0, .getfield 1639603, .aload 0, .getfield 1240, .invokevirtual 35106, .checkcast 12, .iaload, .tableswitch 107 1 7 #[9, 13, 17, 28, 51, 67, 83]] 0 loc stk M) : Wq 138 cd_138 post 0 loc stk M := prefB_run ck_138 _ 0 (by decide +kernel) h
theorem b_138_9 (h : wpl (Wq 138 cd_138 post) post [.aload 0, .iconst 0, .invokevirtual 35619, .ret 1] 9 loc stk M) : Wq 138 cd_138 post 9 loc stk M := prefB_run ck_138 _ 9 (by decide +kernel) h
theorem b_138_13 (h : wpl (Wq 138 cd_138 post) post [.aload 0, .iconst 1, .invokevirtual 35619, .ret 1] 13 loc stk M) : Wq 138 cd_138 post 13 loc stk M := prefB_run ck_138 _ 13 (by decide +kernel) h
theorem b_138_17 (h : wpl (Wq 138 cd_138 post) post [.aload 0, .iconst 2, .invokevirtual 35619, .ifCond .eq 26, .aload 0, .invokevirtual 36115, .ifCond .eq 26, .iconst 1, .goto 27] 17 loc stk M) : Wq 138 cd_138 post 17 loc stk M := prefB_run ck_138 _ 17 (by decide +kernel) h
theorem b_138_26 (h : wpl (Wq 138 cd_138 post) post [.iconst 0, .ret 1] 26 loc stk M) : Wq 138 cd_138 post 26 loc stk M := prefB_run ck_138 _ 26 (by decide +kernel) h
theorem b_138_27 (h : wpl (Wq 138 cd_138 post) post [.ret 1] 27 loc stk M) : Wq 138 cd_138 post 27 loc stk M := prefB_run ck_138 _ 27 (by decide +kernel) h
theorem b_138_28 (h : wpl (Wq 138 cd_138 post) post [.aload 0, .iconst 3, .invokevirtual 35619, .ifCond .eq 49, .aload 0, .getstatic 779, .getstatic 845, .invokevirtual 36403, .ifCond .eq 49, .aload 0, .getstatic 780, .getstatic 846, .invokevirtual 36403, .ifCond .eq 49, .aload 0, .getstatic 781, .getstatic 847, .invokevirtual 36403, .ifCond .eq 49, .iconst 1, .goto 50] 28 loc stk M) : Wq 138 cd_138 post 28 loc stk M := prefB_run ck_138 _ 28 (by decide +kernel) h
theorem b_138_49 (h : wpl (Wq 138 cd_138 post) post [.iconst 0, .ret 1] 49 loc stk M) : Wq 138 cd_138 post 49 loc stk M := prefB_run ck_138 _ 49 (by decide +kernel) h
theorem b_138_50 (h : wpl (Wq 138 cd_138 post) post [.ret 1] 50 loc stk M) : Wq 138 cd_138 post 50 loc stk M := prefB_run ck_138 _ 50 (by decide +kernel) h
theorem b_138_51 (h : wpl (Wq 138 cd_138 post) post [.aload 0, .iconst 4, .invokevirtual 35619, .ifCond .eq 65, .aload 0, .getstatic 783, .getstatic 843, .invokevirtual 36403, .ifCond .eq 65, .aload 0, .invokevirtual 36627, .ifCond .eq 65, .iconst 1, .goto 66] 51 loc stk M) : Wq 138 cd_138 post 51 loc stk M := prefB_run ck_138 _ 51 (by decide +kernel) h
theorem b_138_65 (h : wpl (Wq 138 cd_138 post) post [.iconst 0, .ret 1] 65 loc stk M) : Wq 138 cd_138 post 65 loc stk M := prefB_run ck_138 _ 65 (by decide +kernel) h
theorem b_138_66 (h : wpl (Wq 138 cd_138 post) post [.ret 1] 66 loc stk M) : Wq 138 cd_138 post 66 loc stk M := prefB_run ck_138 _ 66 (by decide +kernel) h
theorem b_138_67 (h : wpl (Wq 138 cd_138 post) post [.aload 0, .iconst 5, .invokevirtual 35619, .ifCond .eq 81, .aload 0, .getstatic 785, .getstatic 848, .invokevirtual 36403, .ifCond .eq 81, .aload 0, .invokevirtual 37139, .ifCond .eq 81, .iconst 1, .goto 82] 67 loc stk M) : Wq 138 cd_138 post 67 loc stk M := prefB_run ck_138 _ 67 (by decide +kernel) h
theorem b_138_81 (h : wpl (Wq 138 cd_138 post) post [.iconst 0, .ret 1] 81 loc stk M) : Wq 138 cd_138 post 81 loc stk M := prefB_run ck_138 _ 81 (by decide +kernel) h
theorem b_138_82 (h : wpl (Wq 138 cd_138 post) post [.ret 1] 82 loc stk M) : Wq 138 cd_138 post 82 loc stk M := prefB_run ck_138 _ 82 (by decide +kernel) h
theorem b_138_83 (h : wpl (Wq 138 cd_138 post) post [.aload 0, .iconst 6, .invokevirtual 35619, .ifCond .eq 105, .aload 0, .getstatic 788, .getstatic 832, .invokevirtual 35891, .ifCond .eq 105, .aload 0, .getstatic 772, .getstatic 837, .invokevirtual 35891, .ifCond .eq 105, .aload 0, .invokevirtual 37395, .ifCond .eq 105, .aload 0, .invokevirtual 37651, .ifCond .eq 105, .iconst 1, .goto 106] 83 loc stk M) : Wq 138 cd_138 post 83 loc stk M := prefB_run ck_138 _ 83 (by decide +kernel) h
theorem b_138_105 (h : wpl (Wq 138 cd_138 post) post [.iconst 0, .ret 1] 105 loc stk M) : Wq 138 cd_138 post 105 loc stk M := prefB_run ck_138 _ 105 (by decide +kernel) h
theorem b_138_106 (h : wpl (Wq 138 cd_138 post) post [.ret 1] 106 loc stk M) : Wq 138 cd_138 post 106 loc stk M := prefB_run ck_138 _ 106 (by decide +kernel) h
theorem b_138_107 (h : wpl (Wq 138 cd_138 post) post [.iconst 0, .ret 1] 107 loc stk M) : Wq 138 cd_138 post 107 loc stk M := prefB_run ck_138 _ 107 (by decide +kernel) h
end
/-! StaticKernel$Outline.eatTold(I)Z -/
set_option maxRecDepth 100000 in
theorem ck_139 : chkM (mt 139) cd_139 = true := by decide +kernel
section
variable {post : Option AV → AMem → Prop} {loc : Lc} {stk : List AV} {M : AMem}
theorem b_139_0 (h : wpl (Wq 139 cd_139 post) post [.aload 0, .getfield 1119064065219, .aload 0, .getfield 1236, .iload 1, .iastore, .aload 0, .getfield 1119064884423, .aload 0, .getfield 1236, .aload 0, .getfield 11771086035, .iload 1, .iaload, .iastore, .aload 0, .getfield 1119065703627, .aload 0, .getfield 1236, .aload 0, .getfield 1240, .iconst 1, .iadd, .iastore, .aload 0, .getfield 11771086035, .iload 1, .dup2, .iaload, .iconst 1, .iadd, .iastore, .aload 0, .dup, .getfield 1236, .iconst 1, .iadd, .putfield 1236, .aload 0, .aload 0, .getfield 1639603, .aload 0, .getfield 1240, .invokevirtual 35106, .getstatic 832, .invokevirtual 35891, .ifCond .eq 54, .aload 0, .getstatic 772, .getstatic 833, .invokevirtual 35891, .ifCond .eq 54, .iconst 1, .goto 55] 0 loc stk M) : Wq 139 cd_139 post 0 loc stk M := prefB_run ck_139 _ 0 (by decide +kernel) h
theorem b_139_54 (h : wpl (Wq 139 cd_139 post) post [.iconst 0, .ret 1] 54 loc stk M) : Wq 139 cd_139 post 54 loc stk M := prefB_run ck_139 _ 54 (by decide +kernel) h
theorem b_139_55 (h : wpl (Wq 139 cd_139 post) post [.ret 1] 55 loc stk M) : Wq 139 cd_139 post 55 loc stk M := prefB_run ck_139 _ 55 (by decide +kernel) h
end
/-! StaticKernel$Outline.eat(LStaticKernel$Kind;LStaticKernel$Role;)Z -/
set_option maxRecDepth 100000 in
theorem ck_140 : chkM (mt 140) cd_140 = true := by decide +kernel
section
variable {post : Option AV → AMem → Prop} {loc : Lc} {stk : List AV} {M : AMem}
theorem b_140_0 (h : wpl (Wq 140 cd_140 post) post [.aload 0, .getfield 1639603, .aload 0, .getfield 1240, .invokevirtual 35106, .aload 1, .if_acmp .eq 9, .iconst 0, .ret 1] 0 loc stk M) : Wq 140 cd_140 post 0 loc stk M := prefB_run ck_140 _ 0 (by decide +kernel) h
theorem b_140_9 (h : wpl (Wq 140 cd_140 post) post [.aload 0, .getfield 6713214567607, .aload 0, .getfield 1240, .aload 2, .aastore, .aload 0, .getfield 6712586241211, .aload 0, .getfield 1240, .aload 0, .getfield 1236, .iconst 1, .isub, .iastore, .aload 0, .dup, .getfield 1240, .iconst 1, .iadd, .putfield 1240, .iconst 1, .ret 1] 9 loc stk M) : Wq 140 cd_140 post 9 loc stk M := prefB_run ck_140 _ 9 (by decide +kernel) h
end
/-! StaticKernel$Outline.eatResourceEnd()Z -/
set_option maxRecDepth 100000 in
theorem ck_141 : chkM (mt 141) cd_141 = true := by decide +kernel
section
variable {post : Option AV → AMem → Prop} {loc : Lc} {stk : List AV} {M : AMem}
theorem b_141_0 (h : wpl (Wq 141 cd_141 post) post [.aload 0, .getstatic 776, .getstatic 832, .invokevirtual 35891, .ifCond .eq 7, .iconst 1, .ret 1] 0 loc stk M) : Wq 141 cd_141 post 0 loc stk M := prefB_run ck_141 _ 0 (by decide +kernel) h
theorem b_141_7 (h : wpl (Wq 141 cd_141 post) post [.aload 0, .getstatic 777, .getstatic 832, .invokevirtual 35891, .ifCond .eq 17, .aload 0, .getstatic 772, .getstatic 835, .invokevirtual 35891, .ifCond .eq 19, .iconst 1, .goto 20] 7 loc stk M) : Wq 141 cd_141 post 7 loc stk M := prefB_run ck_141 _ 7 (by decide +kernel) h
theorem b_141_17 (h : wpl (Wq 141 cd_141 post) post [.iconst 1, .goto 20] 17 loc stk M) : Wq 141 cd_141 post 17 loc stk M := prefB_run ck_141 _ 17 (by decide +kernel) h
theorem b_141_19 (h : wpl (Wq 141 cd_141 post) post [.iconst 0, .ret 1] 19 loc stk M) : Wq 141 cd_141 post 19 loc stk M := prefB_run ck_141 _ 19 (by decide +kernel) h
theorem b_141_20 (h : wpl (Wq 141 cd_141 post) post [.ret 1] 20 loc stk M) : Wq 141 cd_141 post 20 loc stk M := prefB_run ck_141 _ 20 (by decide +kernel) h
end
/-! StaticKernel$Outline.eatNumber(LStaticKernel$Kind;LStaticKernel$Role;)Z -/
set_option maxRecDepth 100000 in
theorem ck_142 : chkM (mt 142) cd_142 = true := by decide +kernel
section
variable {post : Option AV → AMem → Prop} {loc : Lc} {stk : List AV} {M : AMem}
theorem b_142_0 (h : wpl (Wq 142 cd_142 post) post [.aload 0, .aload 1, .getstatic 832, .invokevirtual 35891, .ifCond .eq 12, .aload 0, .getstatic 771, .aload 2, .invokevirtual 35891, .ifCond .eq 12, .iconst 1, .goto 13] 0 loc stk M) : Wq 142 cd_142 post 0 loc stk M := prefB_run ck_142 _ 0 (by decide +kernel) h
theorem b_142_12 (h : wpl (Wq 142 cd_142 post) post [.iconst 0, .ret 1] 12 loc stk M) : Wq 142 cd_142 post 12 loc stk M := prefB_run ck_142 _ 12 (by decide +kernel) h
theorem b_142_13 (h : wpl (Wq 142 cd_142 post) post [.ret 1] 13 loc stk M) : Wq 142 cd_142 post 13 loc stk M := prefB_run ck_142 _ 13 (by decide +kernel) h
end
/-! StaticKernel$Outline.eatParts()Z -/
set_option maxRecDepth 100000 in
theorem ck_143 : chkM (mt 143) cd_143 = true := by decide +kernel
section
variable {post : Option AV → AMem → Prop} {loc : Lc} {stk : List AV} {M : AMem}
theorem b_143_0 (h : wpl (Wq 143 cd_143 post) post [.iconst 1, .istore 1, .iconst 1, .istore 2, .iconst 0, .istore 3] 0 loc stk M) : Wq 143 cd_143 post 0 loc stk M := prefB_run ck_143 _ 0 (by decide +kernel) h
theorem b_143_6 (h : wpl (Wq 143 cd_143 post) post [.iload 3, .iconst 4001, .if_icmp .ge 91, .iload 1, .ifCond .eq 91, .iload 2, .ifCond .eq 91, .aload 0, .getfield 1639603, .aload 0, .getfield 1240, .invokevirtual 35106, .astore 4, .getstatic 3939968, .aload 4, .checkcast 12, .iaload, .tableswitch 87 8 12 #[24, 30, 45, 59, 73]] 6 loc stk M) : Wq 143 cd_143 post 6 loc stk M := prefB_run ck_143 _ 6 (by decide +kernel) h
theorem b_143_24 (h : wpl (Wq 143 cd_143 post) post [.aload 0, .aload 4, .getstatic 834, .invokevirtual 35891, .istore 1, .goto 89] 24 loc stk M) : Wq 143 cd_143 post 24 loc stk M := prefB_run ck_143 _ 24 (by decide +kernel) h
theorem b_143_30 (h : wpl (Wq 143 cd_143 post) post [.aload 0, .aload 4, .getstatic 834, .invokevirtual 35891, .ifCond .eq 42, .aload 0, .getstatic 771, .getstatic 844, .invokevirtual 35891, .ifCond .eq 42, .iconst 1, .goto 43] 30 loc stk M) : Wq 143 cd_143 post 30 loc stk M := prefB_run ck_143 _ 30 (by decide +kernel) h
theorem b_143_42 (h : wpl (Wq 143 cd_143 post) post [.iconst 0, .istore 1, .goto 89] 42 loc stk M) : Wq 143 cd_143 post 42 loc stk M := prefB_run ck_143 _ 42 (by decide +kernel) h
theorem b_143_43 (h : wpl (Wq 143 cd_143 post) post [.istore 1, .goto 89] 43 loc stk M) : Wq 143 cd_143 post 43 loc stk M := prefB_run ck_143 _ 43 (by decide +kernel) h
theorem b_143_45 (h : wpl (Wq 143 cd_143 post) post [.aload 0, .aload 4, .getstatic 834, .invokevirtual 35891, .ifCond .eq 56, .aload 0, .getstatic 842, .invokevirtual 36899, .ifCond .eq 56, .iconst 1, .goto 57] 45 loc stk M) : Wq 143 cd_143 post 45 loc stk M := prefB_run ck_143 _ 45 (by decide +kernel) h
theorem b_143_56 (h : wpl (Wq 143 cd_143 post) post [.iconst 0, .istore 1, .goto 89] 56 loc stk M) : Wq 143 cd_143 post 56 loc stk M := prefB_run ck_143 _ 56 (by decide +kernel) h
theorem b_143_57 (h : wpl (Wq 143 cd_143 post) post [.istore 1, .goto 89] 57 loc stk M) : Wq 143 cd_143 post 57 loc stk M := prefB_run ck_143 _ 57 (by decide +kernel) h
theorem b_143_59 (h : wpl (Wq 143 cd_143 post) post [.aload 0, .aload 4, .getstatic 834, .invokevirtual 35891, .ifCond .eq 70, .aload 0, .getstatic 836, .invokevirtual 36899, .ifCond .eq 70, .iconst 1, .goto 71] 59 loc stk M) : Wq 143 cd_143 post 59 loc stk M := prefB_run ck_143 _ 59 (by decide +kernel) h
theorem b_143_70 (h : wpl (Wq 143 cd_143 post) post [.iconst 0, .istore 1, .goto 89] 70 loc stk M) : Wq 143 cd_143 post 70 loc stk M := prefB_run ck_143 _ 70 (by decide +kernel) h
theorem b_143_71 (h : wpl (Wq 143 cd_143 post) post [.istore 1, .goto 89] 71 loc stk M) : Wq 143 cd_143 post 71 loc stk M := prefB_run ck_143 _ 71 (by decide +kernel) h
theorem b_143_73 (h : wpl (Wq 143 cd_143 post) post [.aload 0, .aload 4, .getstatic 834, .invokevirtual 35891, .ifCond .eq 84, .aload 0, .getstatic 841, .invokevirtual 36899, .ifCond .eq 84, .iconst 1, .goto 85] 73 loc stk M) : Wq 143 cd_143 post 73 loc stk M := prefB_run ck_143 _ 73 (by decide +kernel) h
theorem b_143_84 (h : wpl (Wq 143 cd_143 post) post [.iconst 0, .istore 1, .goto 89] 84 loc stk M) : Wq 143 cd_143 post 84 loc stk M := prefB_run ck_143 _ 84 (by decide +kernel) h
theorem b_143_85 (h : wpl (Wq 143 cd_143 post) post [.istore 1, .goto 89] 85 loc stk M) : Wq 143 cd_143 post 85 loc stk M := prefB_run ck_143 _ 85 (by decide +kernel) h
theorem b_143_87 (h : wpl (Wq 143 cd_143 post) post [.iconst 0, .istore 2, .iinc 3 1, .goto 6] 87 loc stk M) : Wq 143 cd_143 post 87 loc stk M := prefB_run ck_143 _ 87 (by decide +kernel) h
theorem b_143_89 (h : wpl (Wq 143 cd_143 post) post [.iinc 3 1, .goto 6] 89 loc stk M) : Wq 143 cd_143 post 89 loc stk M := prefB_run ck_143 _ 89 (by decide +kernel) h
theorem b_143_91 (h : wpl (Wq 143 cd_143 post) post [.iload 1, .ret 1] 91 loc stk M) : Wq 143 cd_143 post 91 loc stk M := prefB_run ck_143 _ 91 (by decide +kernel) h
end
/-! StaticKernel$Outline.eatNames(LStaticKernel$Role;)Z -/
set_option maxRecDepth 100000 in
theorem ck_144 : chkM (mt 144) cd_144 = true := by decide +kernel
section
variable {post : Option AV → AMem → Prop} {loc : Lc} {stk : List AV} {M : AMem}
theorem b_144_0 (h : wpl (Wq 144 cd_144 post) post [.aload 0, .getstatic 772, .aload 1, .invokevirtual 35891, .istore 2, .iconst 0, .istore 3] 0 loc stk M) : Wq 144 cd_144 post 0 loc stk M := prefB_run ck_144 _ 0 (by decide +kernel) h
theorem b_144_7 (h : wpl (Wq 144 cd_144 post) post [.iload 3, .iconst 4001, .if_icmp .ge 24, .iload 2, .ifCond .eq 24, .aload 0, .getstatic 770, .getstatic 832, .invokevirtual 35891, .ifCond .eq 24, .aload 0, .getstatic 772, .aload 1, .invokevirtual 35891, .istore 2, .iinc 3 1, .goto 7] 7 loc stk M) : Wq 144 cd_144 post 7 loc stk M := prefB_run ck_144 _ 7 (by decide +kernel) h
theorem b_144_24 (h : wpl (Wq 144 cd_144 post) post [.iload 2, .ret 1] 24 loc stk M) : Wq 144 cd_144 post 24 loc stk M := prefB_run ck_144 _ 24 (by decide +kernel) h
end
/-! StaticKernel$Outline.eatIsrUses()Z -/
set_option maxRecDepth 100000 in
theorem ck_145 : chkM (mt 145) cd_145 = true := by decide +kernel
section
variable {post : Option AV → AMem → Prop} {loc : Lc} {stk : List AV} {M : AMem}
theorem b_145_0 (h : wpl (Wq 145 cd_145 post) post [.aload 0, .getstatic 786, .getstatic 832, .invokevirtual 35891, .ifCond .eq 9, .aload 0, .getstatic 836, .invokevirtual 36899, .ifCond .eq 11, .iconst 1, .goto 12] 0 loc stk M) : Wq 145 cd_145 post 0 loc stk M := prefB_run ck_145 _ 0 (by decide +kernel) h
theorem b_145_9 (h : wpl (Wq 145 cd_145 post) post [.iconst 1, .goto 12] 9 loc stk M) : Wq 145 cd_145 post 9 loc stk M := prefB_run ck_145 _ 9 (by decide +kernel) h
theorem b_145_11 (h : wpl (Wq 145 cd_145 post) post [.iconst 0, .ret 1] 11 loc stk M) : Wq 145 cd_145 post 11 loc stk M := prefB_run ck_145 _ 11 (by decide +kernel) h
theorem b_145_12 (h : wpl (Wq 145 cd_145 post) post [.ret 1] 12 loc stk M) : Wq 145 cd_145 post 12 loc stk M := prefB_run ck_145 _ 12 (by decide +kernel) h
end
/-! StaticKernel$Outline.eatAction()Z -/
set_option maxRecDepth 100000 in
theorem ck_146 : chkM (mt 146) cd_146 = true := by decide +kernel
section
variable {post : Option AV → AMem → Prop} {loc : Lc} {stk : List AV} {M : AMem}
theorem b_146_0 (h : wpl (Wq 146 cd_146 post) post [.aload 0, .getstatic 789, .getstatic 832, .invokevirtual 35891, .ifCond .eq 10, .aload 0, .getstatic 772, .getstatic 838, .invokevirtual 35891, .ret 1] 0 loc stk M) : Wq 146 cd_146 post 0 loc stk M := prefB_run ck_146 _ 0 (by decide +kernel) h
theorem b_146_10 (h : wpl (Wq 146 cd_146 post) post [.aload 0, .getstatic 790, .getstatic 832, .invokevirtual 35891, .ifCond .eq 29, .aload 0, .getstatic 772, .getstatic 839, .invokevirtual 35891, .ifCond .eq 27, .aload 0, .getstatic 772, .getstatic 840, .invokevirtual 35891, .ifCond .eq 27, .iconst 1, .goto 28] 10 loc stk M) : Wq 146 cd_146 post 10 loc stk M := prefB_run ck_146 _ 10 (by decide +kernel) h
theorem b_146_27 (h : wpl (Wq 146 cd_146 post) post [.iconst 0, .ret 1] 27 loc stk M) : Wq 146 cd_146 post 27 loc stk M := prefB_run ck_146 _ 27 (by decide +kernel) h
theorem b_146_28 (h : wpl (Wq 146 cd_146 post) post [.ret 1] 28 loc stk M) : Wq 146 cd_146 post 28 loc stk M := prefB_run ck_146 _ 28 (by decide +kernel) h
theorem b_146_29 (h : wpl (Wq 146 cd_146 post) post [.aload 0, .getstatic 791, .getstatic 832, .invokevirtual 35891, .ret 1] 29 loc stk M) : Wq 146 cd_146 post 29 loc stk M := prefB_run ck_146 _ 29 (by decide +kernel) h
end
/-! StaticKernel$Outline.eatAlarmAuto()Z -/
set_option maxRecDepth 100000 in
theorem ck_147 : chkM (mt 147) cd_147 = true := by decide +kernel
section
variable {post : Option AV → AMem → Prop} {loc : Lc} {stk : List AV} {M : AMem}
theorem b_147_0 (h : wpl (Wq 147 cd_147 post) post [.aload 0, .getstatic 792, .getstatic 832, .invokevirtual 35891, .ifCond .ne 7, .iconst 1, .ret 1] 0 loc stk M) : Wq 147 cd_147 post 0 loc stk M := prefB_run ck_147 _ 0 (by decide +kernel) h
theorem b_147_7 (h : wpl (Wq 147 cd_147 post) post [.aload 0, .getstatic 842, .invokevirtual 36899, .ifCond .eq 30, .aload 0, .getstatic 793, .getstatic 849, .invokevirtual 36403, .ifCond .eq 30, .aload 0, .getfield 1639603, .aload 0, .getfield 1240, .invokevirtual 35106, .getstatic 794, .if_acmp .ne 28, .aload 0, .getstatic 794, .getstatic 850, .invokevirtual 36403, .ifCond .eq 30, .iconst 1, .goto 31] 7 loc stk M) : Wq 147 cd_147 post 7 loc stk M := prefB_run ck_147 _ 7 (by decide +kernel) h
theorem b_147_28 (h : wpl (Wq 147 cd_147 post) post [.iconst 1, .goto 31] 28 loc stk M) : Wq 147 cd_147 post 28 loc stk M := prefB_run ck_147 _ 28 (by decide +kernel) h
theorem b_147_30 (h : wpl (Wq 147 cd_147 post) post [.iconst 0, .ret 1] 30 loc stk M) : Wq 147 cd_147 post 30 loc stk M := prefB_run ck_147 _ 30 (by decide +kernel) h
theorem b_147_31 (h : wpl (Wq 147 cd_147 post) post [.ret 1] 31 loc stk M) : Wq 147 cd_147 post 31 loc stk M := prefB_run ck_147 _ 31 (by decide +kernel) h
end
/-! StaticKernel$Outline.findMeanings()V -/
set_option maxRecDepth 100000 in
theorem ck_148 : chkM (mt 148) cd_148 = true := by decide +kernel
section
variable {post : Option AV → AMem → Prop} {loc : Lc} {stk : List AV} {M : AMem}
theorem b_148_0 (h : wpl (Wq 148 cd_148 post) post [.iconst 0, .istore 1] 0 loc stk M) : Wq 148 cd_148 post 0 loc stk M := prefB_run ck_148 _ 0 (by decide +kernel) h
theorem b_148_2 (h : wpl (Wq 148 cd_148 post) post [.iload 1, .aload 0, .getfield 1240, .if_icmp .ge 24, .aload 0, .getfield 6712587060415, .iload 1, .aload 0, .getfield 1639603, .getfield 6713210471203, .iload 1, .aaload, .getstatic 772, .if_acmp .ne 20, .aload 0, .iload 1, .invokevirtual 38179, .goto 21] 2 loc stk M) : Wq 148 cd_148 post 2 loc stk M := prefB_run ck_148 _ 2 (by decide +kernel) h
theorem b_148_20 (h : wpl (Wq 148 cd_148 post) post [.iconst (-1), .iastore, .iinc 1 1, .goto 2] 20 loc stk M) : Wq 148 cd_148 post 20 loc stk M := prefB_run ck_148 _ 20 (by decide +kernel) h
theorem b_148_21 (h : wpl (Wq 148 cd_148 post) post [.iastore, .iinc 1 1, .goto 2] 21 loc stk M) : Wq 148 cd_148 post 21 loc stk M := prefB_run ck_148 _ 21 (by decide +kernel) h
theorem b_148_24 (h : wpl (Wq 148 cd_148 post) post [.return_] 24 loc stk M) : Wq 148 cd_148 post 24 loc stk M := prefB_run ck_148 _ 24 (by decide +kernel) h
end
/-! StaticKernel$Outline.firstTelling(I)I -/
set_option maxRecDepth 100000 in
theorem ck_149 : chkM (mt 149) cd_149 = true := by decide +kernel
section
variable {post : Option AV → AMem → Prop} {loc : Lc} {stk : List AV} {M : AMem}
theorem b_149_0 (h : wpl (Wq 149 cd_149 post) post [.iconst 0, .istore 2] 0 loc stk M) : Wq 149 cd_149 post 0 loc stk M := prefB_run ck_149 _ 0 (by decide +kernel) h
theorem b_149_2 (h : wpl (Wq 149 cd_149 post) post [.iload 2, .aload 0, .getfield 1236, .if_icmp .ge 19, .aload 0, .getfield 1639603, .aload 0, .getfield 1119065703627, .iload 2, .iaload, .iload 1, .invokevirtual 38450, .ifCond .eq 17, .iload 2, .ret 0] 2 loc stk M) : Wq 149 cd_149 post 2 loc stk M := prefB_run ck_149 _ 2 (by decide +kernel) h
theorem b_149_17 (h : wpl (Wq 149 cd_149 post) post [.iinc 2 1, .goto 2] 17 loc stk M) : Wq 149 cd_149 post 17 loc stk M := prefB_run ck_149 _ 17 (by decide +kernel) h
theorem b_149_19 (h : wpl (Wq 149 cd_149 post) post [.iconst (-1), .ret 0] 19 loc stk M) : Wq 149 cd_149 post 19 loc stk M := prefB_run ck_149 _ 19 (by decide +kernel) h
end
/-! StaticKernel$Tokens.isSameName(II)Z -/
set_option maxRecDepth 100000 in
theorem ck_150 : chkM (mt 150) cd_150 = true := by decide +kernel
section
variable {post : Option AV → AMem → Prop} {loc : Lc} {stk : List AV} {M : AMem}
theorem b_150_0 (h : wpl (Wq 150 cd_150 post) post [.aload 0, .getfield 6713003213615, .iload 1, .laload, .aload 0, .getfield 6713003213615, .iload 2, .laload, .lcmp, .ifCond .ne 22, .aload 0, .getfield 6713004032819, .iload 1, .laload, .aload 0, .getfield 6713004032819, .iload 2, .laload, .lcmp, .ifCond .ne 22, .iconst 1, .goto 23] 0 loc stk M) : Wq 150 cd_150 post 0 loc stk M := prefB_run ck_150 _ 0 (by decide +kernel) h
theorem b_150_22 (h : wpl (Wq 150 cd_150 post) post [.iconst 0, .ret 1] 22 loc stk M) : Wq 150 cd_150 post 22 loc stk M := prefB_run ck_150 _ 22 (by decide +kernel) h
theorem b_150_23 (h : wpl (Wq 150 cd_150 post) post [.ret 1] 23 loc stk M) : Wq 150 cd_150 post 23 loc stk M := prefB_run ck_150 _ 23 (by decide +kernel) h
end
/-! StaticKernel$Faults.look(I)V -/
set_option maxRecDepth 100000 in
theorem ck_151 : chkM (mt 151) cd_151 = true := by decide +kernel
section
variable {post : Option AV → AMem → Prop} {loc : Lc} {stk : List AV} {M : AMem}
theorem b_151_0 (h : wpl (Wq 151 cd_151 post) post [.aload 0, .iload 1, .iconst (-1), .if_icmp .ne 6, .iconst 0, .goto 7] 0 loc stk M) : Wq 151 cd_151 post 0 loc stk M := prefB_run ck_151 _ 0 (by decide +kernel) h
theorem b_151_6 (h : wpl (Wq 151 cd_151 post) post [.iconst 1, .putfield 1608, .aload 0, .iload 1, .putfield 1612, .iconst 0, .istore 2] 6 loc stk M) : Wq 151 cd_151 post 6 loc stk M := prefB_run ck_151 _ 6 (by decide +kernel) h
theorem b_151_7 (h : wpl (Wq 151 cd_151 post) post [.putfield 1608, .aload 0, .iload 1, .putfield 1612, .iconst 0, .istore 2] 7 loc stk M) : Wq 151 cd_151 post 7 loc stk M := prefB_run ck_151 _ 7 (by decide +kernel) h
theorem b_151_13 (h : wpl (Wq 151 cd_151 post) post [.iload 2, .aload 0, .getfield 2459203, .getfield 1240, .if_icmp .ge 38, .aload 0, .getfield 1608, .ifCond .ne 38, .aload 0, .aload 0, .iload 2, .invokevirtual 38948, .putfield 1608, .aload 0, .getfield 1608, .ifCond .eq 36, .aload 0, .aload 0, .getfield 1640007, .getfield 6712582144807, .iload 2, .iaload, .putfield 1612, .iinc 2 1, .goto 13] 13 loc stk M) : Wq 151 cd_151 post 13 loc stk M := prefB_run ck_151 _ 13 (by decide +kernel) h
theorem b_151_36 (h : wpl (Wq 151 cd_151 post) post [.iinc 2 1, .goto 13] 36 loc stk M) : Wq 151 cd_151 post 36 loc stk M := prefB_run ck_151 _ 36 (by decide +kernel) h
theorem b_151_38 (h : wpl (Wq 151 cd_151 post) post [.return_] 38 loc stk M) : Wq 151 cd_151 post 38 loc stk M := prefB_run ck_151 _ 38 (by decide +kernel) h
end
/-! StaticKernel$Faults.kindOf(I)I -/
set_option maxRecDepth 100000 in
theorem ck_152 : chkM (mt 152) cd_152 = true := by decide +kernel
section
variable {post : Option AV → AMem → Prop} {loc : Lc} {stk : List AV} {M : AMem}
theorem b_152_0 (h : wpl (Wq 152 cd_152 post) post [.aload 0, .iload 1, .invokevirtual 39204, .ifCond .eq 6, .iconst 2, .ret 0] 0 loc stk M) : Wq 152 cd_152 post 0 loc stk M := prefB_run ck_152 _ 0 (by decide +kernel) h
theorem b_152_6 (h : wpl (Wq 152 cd_152 post) post [.aload 0, .iload 1, .invokevirtual 39972, .ifCond .eq 12, .iconst 3, .ret 0] 6 loc stk M) : Wq 152 cd_152 post 6 loc stk M := prefB_run ck_152 _ 6 (by decide +kernel) h
theorem b_152_12 (h : wpl (Wq 152 cd_152 post) post [.aload 0, .iload 1, .invokevirtual 40228, .ifCond .eq 18, .iconst 4, .ret 0] 12 loc stk M) : Wq 152 cd_152 post 12 loc stk M := prefB_run ck_152 _ 12 (by decide +kernel) h
theorem b_152_18 (h : wpl (Wq 152 cd_152 post) post [.aload 0, .iload 1, .invokevirtual 41508, .ifCond .eq 24, .iconst 5, .ret 0] 18 loc stk M) : Wq 152 cd_152 post 18 loc stk M := prefB_run ck_152 _ 18 (by decide +kernel) h
theorem b_152_24 (h : wpl (Wq 152 cd_152 post) post [.aload 0, .iload 1, .invokevirtual 43044, .ifCond .eq 30, .iconst 6, .goto 31] 24 loc stk M) : Wq 152 cd_152 post 24 loc stk M := prefB_run ck_152 _ 24 (by decide +kernel) h
theorem b_152_30 (h : wpl (Wq 152 cd_152 post) post [.iconst 0, .ret 0] 30 loc stk M) : Wq 152 cd_152 post 30 loc stk M := prefB_run ck_152 _ 30 (by decide +kernel) h
theorem b_152_31 (h : wpl (Wq 152 cd_152 post) post [.ret 0] 31 loc stk M) : Wq 152 cd_152 post 31 loc stk M := prefB_run ck_152 _ 31 (by decide +kernel) h
end
/-! StaticKernel$Faults.isTwice(I)Z -/
set_option maxRecDepth 100000 in
theorem ck_153 : chkM (mt 153) cd_153 = true := by decide +kernel
section
variable {post : Option AV → AMem → Prop} {loc : Lc} {stk : List AV} {M : AMem}
theorem b_153_0 (h : wpl (Wq 153 cd_153 post) post [.getstatic 2498240, .aload 0, .getfield 2459203, .getfield 6713214567607, .iload 1, .aaload, .checkcast 13, .iaload, .tableswitch 32 1 5 #[9, 24, 28, 28, 28]] 0 loc stk M) : Wq 153 cd_153 post 0 loc stk M := prefB_run ck_153 _ 0 (by decide +kernel) h
theorem b_153_9 (h : wpl (Wq 153 cd_153 post) post [.aload 0, .getfield 2459203, .getfield 6712587060415, .iload 1, .iaload, .aload 0, .getfield 2459203, .getfield 6712586241211, .iload 1, .iaload, .if_icmp .eq 22, .iconst 1, .goto 23] 9 loc stk M) : Wq 153 cd_153 post 9 loc stk M := prefB_run ck_153 _ 9 (by decide +kernel) h
theorem b_153_22 (h : wpl (Wq 153 cd_153 post) post [.iconst 0, .ret 1] 22 loc stk M) : Wq 153 cd_153 post 22 loc stk M := prefB_run ck_153 _ 22 (by decide +kernel) h
theorem b_153_23 (h : wpl (Wq 153 cd_153 post) post [.ret 1] 23 loc stk M) : Wq 153 cd_153 post 23 loc stk M := prefB_run ck_153 _ 23 (by decide +kernel) h
theorem b_153_24 (h : wpl (Wq 153 cd_153 post) post [.aload 0, .iload 1, .invokevirtual 39460, .ret 1] 24 loc stk M) : Wq 153 cd_153 post 24 loc stk M := prefB_run ck_153 _ 24 (by decide +kernel) h
theorem b_153_28 (h : wpl (Wq 153 cd_153 post) post [.aload 0, .iload 1, .invokevirtual 39716, .ret 1] 28 loc stk M) : Wq 153 cd_153 post 28 loc stk M := prefB_run ck_153 _ 28 (by decide +kernel) h
theorem b_153_32 (h : wpl (Wq 153 cd_153 post) post [.iconst 0, .ret 1] 32 loc stk M) : Wq 153 cd_153 post 32 loc stk M := prefB_run ck_153 _ 32 (by decide +kernel) h
end
/-! StaticKernel$Faults.isPartAhead(I)Z -/
set_option maxRecDepth 100000 in
theorem ck_154 : chkM (mt 154) cd_154 = true := by decide +kernel
section
variable {post : Option AV → AMem → Prop} {loc : Lc} {stk : List AV} {M : AMem}
theorem b_154_0 (h : wpl (Wq 154 cd_154 post) post [.aload 0, .getfield 2459203, .getfield 1119065703627, .aload 0, .getfield 2459203, .getfield 6712586241211, .iload 1, .iaload, .iaload, .istore 2] 0 loc stk M) : Wq 154 cd_154 post 0 loc stk M := prefB_run ck_154 _ 0 (by decide +kernel) h
theorem b_154_10 (h : wpl (Wq 154 cd_154 post) post [.iload 2, .iload 1, .if_icmp .ge 35, .aload 0, .getfield 2459203, .getfield 6713214567607, .iload 2, .aaload, .getstatic 834, .if_acmp .ne 33, .aload 0, .getfield 1640007, .getfield 6713210471203, .iload 2, .aaload, .aload 0, .getfield 1640007, .getfield 6713210471203, .iload 1, .aaload, .if_acmp .ne 33, .iconst 1, .ret 1] 10 loc stk M) : Wq 154 cd_154 post 10 loc stk M := prefB_run ck_154 _ 10 (by decide +kernel) h
theorem b_154_33 (h : wpl (Wq 154 cd_154 post) post [.iinc 2 1, .goto 10] 33 loc stk M) : Wq 154 cd_154 post 33 loc stk M := prefB_run ck_154 _ 33 (by decide +kernel) h
theorem b_154_35 (h : wpl (Wq 154 cd_154 post) post [.iconst 0, .ret 1] 35 loc stk M) : Wq 154 cd_154 post 35 loc stk M := prefB_run ck_154 _ 35 (by decide +kernel) h
end
/-! StaticKernel$Faults.isNameAhead(I)Z -/
set_option maxRecDepth 100000 in
theorem ck_155 : chkM (mt 155) cd_155 = true := by decide +kernel
section
variable {post : Option AV → AMem → Prop} {loc : Lc} {stk : List AV} {M : AMem}
theorem b_155_0 (h : wpl (Wq 155 cd_155 post) post [.iload 1, .iconst 2, .isub, .istore 2] 0 loc stk M) : Wq 155 cd_155 post 0 loc stk M := prefB_run ck_155 _ 0 (by decide +kernel) h
theorem b_155_4 (h : wpl (Wq 155 cd_155 post) post [.iload 2, .ifCond .lt 25, .aload 0, .getfield 1640007, .getfield 6713210471203, .iload 2, .iconst 1, .iadd, .aaload, .getstatic 770, .if_acmp .ne 25, .aload 0, .getfield 1640007, .iload 1, .iload 2, .invokevirtual 38450, .ifCond .eq 23, .iconst 1, .ret 1] 4 loc stk M) : Wq 155 cd_155 post 4 loc stk M := prefB_run ck_155 _ 4 (by decide +kernel) h
theorem b_155_23 (h : wpl (Wq 155 cd_155 post) post [.iinc 2 (-2), .goto 4] 23 loc stk M) : Wq 155 cd_155 post 23 loc stk M := prefB_run ck_155 _ 23 (by decide +kernel) h
theorem b_155_25 (h : wpl (Wq 155 cd_155 post) post [.iconst 0, .ret 1] 25 loc stk M) : Wq 155 cd_155 post 25 loc stk M := prefB_run ck_155 _ 25 (by decide +kernel) h
end
/-! StaticKernel$Faults.isUnknown(I)Z -/
set_option maxRecDepth 100000 in
theorem ck_156 : chkM (mt 156) cd_156 = true := by decide +kernel
section
variable {post : Option AV → AMem → Prop} {loc : Lc} {stk : List AV} {M : AMem}
theorem b_156_0 (h : wpl (Wq 156 cd_156 post) post [.aload 0, .getfield 2459203, .getfield 6713214567607, .iload 1, .aaload, .checkcast 101, .istore 2, .iload 2, .iconst (-1), .if_icmp .ne 12, .iconst 0, .ret 1] 0 loc stk M) : Wq 156 cd_156 post 0 loc stk M := prefB_run ck_156 _ 0 (by decide +kernel) h
theorem b_156_12 (h : wpl (Wq 156 cd_156 post) post [.aload 0, .getfield 2459203, .getfield 6712587060415, .iload 1, .iaload, .istore 3, .iload 3, .iconst (-1), .if_icmp .eq 28, .aload 0, .getfield 2459203, .getfield 1119064065219, .iload 3, .iaload, .iload 2, .if_icmp .eq 30, .iconst 1, .goto 31] 12 loc stk M) : Wq 156 cd_156 post 12 loc stk M := prefB_run ck_156 _ 12 (by decide +kernel) h
theorem b_156_28 (h : wpl (Wq 156 cd_156 post) post [.iconst 1, .goto 31] 28 loc stk M) : Wq 156 cd_156 post 28 loc stk M := prefB_run ck_156 _ 28 (by decide +kernel) h
theorem b_156_30 (h : wpl (Wq 156 cd_156 post) post [.iconst 0, .ret 1] 30 loc stk M) : Wq 156 cd_156 post 30 loc stk M := prefB_run ck_156 _ 30 (by decide +kernel) h
theorem b_156_31 (h : wpl (Wq 156 cd_156 post) post [.ret 1] 31 loc stk M) : Wq 156 cd_156 post 31 loc stk M := prefB_run ck_156 _ 31 (by decide +kernel) h
end
/-! StaticKernel$Faults.isOutOfRange(I)Z -/
set_option maxRecDepth 100000 in
theorem ck_157 : chkM (mt 157) cd_157 = true := by decide +kernel
section
variable {post : Option AV → AMem → Prop} {loc : Lc} {stk : List AV} {M : AMem}
theorem b_157_0 (h : wpl (Wq 157 cd_157 post) post [.aload 0, .getfield 2459203, .getfield 6712586241211, .iload 1, .iaload, .istore 2, .aload 0, .getfield 1640007, .getfield 6712582964011, .iload 1, .iaload, .istore 3, .getstatic 2498240, .aload 0, .getfield 2459203, .getfield 6713214567607, .iload 1, .aaload, .checkcast 13, .iaload, .tableswitch 110 6 13 #[21, 28, 38, 44, 54, 69, 79, 92]] 0 loc stk M) : Wq 157 cd_157 post 0 loc stk M := prefB_run ck_157 _ 0 (by decide +kernel) h
theorem b_157_21 (h : wpl (Wq 157 cd_157 post) post [.iload 3, .iconst 63, .if_icmp .le 26, .iconst 1, .goto 27] 21 loc stk M) : Wq 157 cd_157 post 21 loc stk M := prefB_run ck_157 _ 21 (by decide +kernel) h
theorem b_157_26 (h : wpl (Wq 157 cd_157 post) post [.iconst 0, .ret 1] 26 loc stk M) : Wq 157 cd_157 post 26 loc stk M := prefB_run ck_157 _ 26 (by decide +kernel) h
theorem b_157_27 (h : wpl (Wq 157 cd_157 post) post [.ret 1] 27 loc stk M) : Wq 157 cd_157 post 27 loc stk M := prefB_run ck_157 _ 27 (by decide +kernel) h
theorem b_157_28 (h : wpl (Wq 157 cd_157 post) post [.iload 3, .iconst 1, .if_icmp .lt 34, .iload 3, .iconst 8, .if_icmp .le 36, .iconst 1, .goto 37] 28 loc stk M) : Wq 157 cd_157 post 28 loc stk M := prefB_run ck_157 _ 28 (by decide +kernel) h
theorem b_157_34 (h : wpl (Wq 157 cd_157 post) post [.iconst 1, .goto 37] 34 loc stk M) : Wq 157 cd_157 post 34 loc stk M := prefB_run ck_157 _ 34 (by decide +kernel) h
theorem b_157_36 (h : wpl (Wq 157 cd_157 post) post [.iconst 0, .ret 1] 36 loc stk M) : Wq 157 cd_157 post 36 loc stk M := prefB_run ck_157 _ 36 (by decide +kernel) h
theorem b_157_37 (h : wpl (Wq 157 cd_157 post) post [.ret 1] 37 loc stk M) : Wq 157 cd_157 post 37 loc stk M := prefB_run ck_157 _ 37 (by decide +kernel) h
theorem b_157_38 (h : wpl (Wq 157 cd_157 post) post [.iload 3, .ifCond .ne 42, .iconst 1, .goto 43] 38 loc stk M) : Wq 157 cd_157 post 38 loc stk M := prefB_run ck_157 _ 38 (by decide +kernel) h
theorem b_157_42 (h : wpl (Wq 157 cd_157 post) post [.iconst 0, .ret 1] 42 loc stk M) : Wq 157 cd_157 post 42 loc stk M := prefB_run ck_157 _ 42 (by decide +kernel) h
theorem b_157_43 (h : wpl (Wq 157 cd_157 post) post [.ret 1] 43 loc stk M) : Wq 157 cd_157 post 43 loc stk M := prefB_run ck_157 _ 43 (by decide +kernel) h
theorem b_157_44 (h : wpl (Wq 157 cd_157 post) post [.iload 3, .iconst 1, .if_icmp .lt 50, .iload 3, .iconst 1000, .if_icmp .le 52, .iconst 1, .goto 53] 44 loc stk M) : Wq 157 cd_157 post 44 loc stk M := prefB_run ck_157 _ 44 (by decide +kernel) h
theorem b_157_50 (h : wpl (Wq 157 cd_157 post) post [.iconst 1, .goto 53] 50 loc stk M) : Wq 157 cd_157 post 50 loc stk M := prefB_run ck_157 _ 50 (by decide +kernel) h
theorem b_157_52 (h : wpl (Wq 157 cd_157 post) post [.iconst 0, .ret 1] 52 loc stk M) : Wq 157 cd_157 post 52 loc stk M := prefB_run ck_157 _ 52 (by decide +kernel) h
theorem b_157_53 (h : wpl (Wq 157 cd_157 post) post [.ret 1] 53 loc stk M) : Wq 157 cd_157 post 53 loc stk M := prefB_run ck_157 _ 53 (by decide +kernel) h
theorem b_157_54 (h : wpl (Wq 157 cd_157 post) post [.iload 3, .iconst 1, .if_icmp .lt 65, .iload 3, .aload 0, .getfield 2459203, .iload 2, .getstatic 845, .iconst 0, .invokevirtual 40515, .if_icmp .le 67, .iconst 1, .goto 68] 54 loc stk M) : Wq 157 cd_157 post 54 loc stk M := prefB_run ck_157 _ 54 (by decide +kernel) h
theorem b_157_65 (h : wpl (Wq 157 cd_157 post) post [.iconst 1, .goto 68] 65 loc stk M) : Wq 157 cd_157 post 65 loc stk M := prefB_run ck_157 _ 65 (by decide +kernel) h
theorem b_157_67 (h : wpl (Wq 157 cd_157 post) post [.iconst 0, .ret 1] 67 loc stk M) : Wq 157 cd_157 post 67 loc stk M := prefB_run ck_157 _ 67 (by decide +kernel) h
theorem b_157_68 (h : wpl (Wq 157 cd_157 post) post [.ret 1] 68 loc stk M) : Wq 157 cd_157 post 68 loc stk M := prefB_run ck_157 _ 68 (by decide +kernel) h
theorem b_157_69 (h : wpl (Wq 157 cd_157 post) post [.iload 3, .iconst 1, .if_icmp .lt 75, .iload 3, .iconst 16, .if_icmp .le 77, .iconst 1, .goto 78] 69 loc stk M) : Wq 157 cd_157 post 69 loc stk M := prefB_run ck_157 _ 69 (by decide +kernel) h
theorem b_157_75 (h : wpl (Wq 157 cd_157 post) post [.iconst 1, .goto 78] 75 loc stk M) : Wq 157 cd_157 post 75 loc stk M := prefB_run ck_157 _ 75 (by decide +kernel) h
theorem b_157_77 (h : wpl (Wq 157 cd_157 post) post [.iconst 0, .ret 1] 77 loc stk M) : Wq 157 cd_157 post 77 loc stk M := prefB_run ck_157 _ 77 (by decide +kernel) h
theorem b_157_78 (h : wpl (Wq 157 cd_157 post) post [.ret 1] 78 loc stk M) : Wq 157 cd_157 post 78 loc stk M := prefB_run ck_157 _ 78 (by decide +kernel) h
theorem b_157_79 (h : wpl (Wq 157 cd_157 post) post [.iload 3, .iconst 1, .if_icmp .lt 88, .iload 3, .aload 0, .iload 2, .getstatic 845, .invokevirtual 41012, .if_icmp .le 90, .iconst 1, .goto 91] 79 loc stk M) : Wq 157 cd_157 post 79 loc stk M := prefB_run ck_157 _ 79 (by decide +kernel) h
theorem b_157_88 (h : wpl (Wq 157 cd_157 post) post [.iconst 1, .goto 91] 88 loc stk M) : Wq 157 cd_157 post 88 loc stk M := prefB_run ck_157 _ 88 (by decide +kernel) h
theorem b_157_90 (h : wpl (Wq 157 cd_157 post) post [.iconst 0, .ret 1] 90 loc stk M) : Wq 157 cd_157 post 90 loc stk M := prefB_run ck_157 _ 90 (by decide +kernel) h
theorem b_157_91 (h : wpl (Wq 157 cd_157 post) post [.ret 1] 91 loc stk M) : Wq 157 cd_157 post 91 loc stk M := prefB_run ck_157 _ 91 (by decide +kernel) h
theorem b_157_92 (h : wpl (Wq 157 cd_157 post) post [.iload 3, .ifCond .eq 108, .iload 3, .aload 0, .iload 2, .getstatic 847, .invokevirtual 41012, .if_icmp .lt 106, .iload 3, .aload 0, .iload 2, .getstatic 845, .invokevirtual 41012, .if_icmp .le 108, .iconst 1, .goto 109] 92 loc stk M) : Wq 157 cd_157 post 92 loc stk M := prefB_run ck_157 _ 92 (by decide +kernel) h
theorem b_157_106 (h : wpl (Wq 157 cd_157 post) post [.iconst 1, .goto 109] 106 loc stk M) : Wq 157 cd_157 post 106 loc stk M := prefB_run ck_157 _ 106 (by decide +kernel) h
theorem b_157_108 (h : wpl (Wq 157 cd_157 post) post [.iconst 0, .ret 1] 108 loc stk M) : Wq 157 cd_157 post 108 loc stk M := prefB_run ck_157 _ 108 (by decide +kernel) h
theorem b_157_109 (h : wpl (Wq 157 cd_157 post) post [.ret 1] 109 loc stk M) : Wq 157 cd_157 post 109 loc stk M := prefB_run ck_157 _ 109 (by decide +kernel) h
theorem b_157_110 (h : wpl (Wq 157 cd_157 post) post [.iconst 0, .ret 1] 110 loc stk M) : Wq 157 cd_157 post 110 loc stk M := prefB_run ck_157 _ 110 (by decide +kernel) h
end
/-! StaticKernel$Outline.valueOf(ILStaticKernel$Role;I)I -/
set_option maxRecDepth 100000 in
theorem ck_158 : chkM (mt 158) cd_158 = true := by decide +kernel
section
variable {post : Option AV → AMem → Prop} {loc : Lc} {stk : List AV} {M : AMem}
theorem b_158_0 (h : wpl (Wq 158 cd_158 post) post [.aload 0, .iload 1, .aload 2, .invokevirtual 40755, .istore 4, .iload 4, .iconst (-1), .if_icmp .ne 10, .iload 3, .goto 15] 0 loc stk M) : Wq 158 cd_158 post 0 loc stk M := prefB_run ck_158 _ 0 (by decide +kernel) h
theorem b_158_10 (h : wpl (Wq 158 cd_158 post) post [.aload 0, .getfield 1639603, .getfield 6712582964011, .iload 4, .iaload, .ret 0] 10 loc stk M) : Wq 158 cd_158 post 10 loc stk M := prefB_run ck_158 _ 10 (by decide +kernel) h
theorem b_158_15 (h : wpl (Wq 158 cd_158 post) post [.ret 0] 15 loc stk M) : Wq 158 cd_158 post 15 loc stk M := prefB_run ck_158 _ 15 (by decide +kernel) h
end
