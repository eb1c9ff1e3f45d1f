/-! StaticKernelModel.thrown()I -/
set_option maxRecDepth 100000 in
theorem ck_2 : chkM (mt 2) cd_2 = true := by decide +kernel
section
variable {post : Option AV → AMem → Prop} {loc : Lc} {stk : List AV} {M : AMem}
theorem b_2_0 (h : wpl (Wq 2 cd_2 post) post [.aload 0, .getfield 4400, .ret 0] 0 loc stk M) : Wq 2 cd_2 post 0 loc stk M := prefB_run ck_2 _ 0 (by decide +kernel) h
end
/-! StaticKernelModel.feed(IIIII)Z -/
set_option maxRecDepth 100000 in
theorem ck_3 : chkM (mt 3) cd_3 = true := by decide +kernel
section
variable {post : Option AV → AMem → Prop} {loc : Lc} {stk : List AV} {M : AMem}
theorem b_3_0 (h : wpl (Wq 3 cd_3 post) post [.aload 0, .iconst 0, .putfield 4400, .aload 0, .getfield 4408, .iconst 20, .iadd, .iconst 4000, .if_icmp .le 11, .iconst 0, .ret 1] 0 loc stk M) : Wq 3 cd_3 post 0 loc stk M := prefB_run ck_3 _ 0 (by decide +kernel) h
theorem b_3_11 (h : wpl (Wq 3 cd_3 post) post [.iconst 0, .istore 6] 11 loc stk M) : Wq 3 cd_3 post 11 loc stk M := prefB_run ck_3 _ 11 (by decide +kernel) h
theorem b_3_13 (h : wpl (Wq 3 cd_3 post) post [.iload 6, .iconst 20, .if_icmp .ge 61, .iload 6, .iconst 4, .if_icmp .ge 21, .iload 1, .goto 37] 13 loc stk M) : Wq 3 cd_3 post 13 loc stk M := prefB_run ck_3 _ 13 (by decide +kernel) h
theorem b_3_21 (h : wpl (Wq 3 cd_3 post) post [.iload 6, .iconst 8, .if_icmp .ge 26, .iload 2, .goto 37] 21 loc stk M) : Wq 3 cd_3 post 21 loc stk M := prefB_run ck_3 _ 21 (by decide +kernel) h
theorem b_3_26 (h : wpl (Wq 3 cd_3 post) post [.iload 6, .iconst 12, .if_icmp .ge 31, .iload 3, .goto 37] 26 loc stk M) : Wq 3 cd_3 post 26 loc stk M := prefB_run ck_3 _ 26 (by decide +kernel) h
theorem b_3_31 (h : wpl (Wq 3 cd_3 post) post [.iload 6, .iconst 16, .if_icmp .ge 36, .iload 4, .goto 37] 31 loc stk M) : Wq 3 cd_3 post 31 loc stk M := prefB_run ck_3 _ 31 (by decide +kernel) h
theorem b_3_36 (h : wpl (Wq 3 cd_3 post) post [.iload 5, .istore 7, .aload 0, .getfield 6711774417207, .aload 0, .getfield 4408, .iload 7, .iconst 24, .iconst 8, .iload 6, .iconst 4, .irem, .imul, .isub, .ishr, .i2b, .bastore, .aload 0, .dup, .getfield 4408, .iconst 1, .iadd, .putfield 4408, .iinc 6 1, .goto 13] 36 loc stk M) : Wq 3 cd_3 post 36 loc stk M := prefB_run ck_3 _ 36 (by decide +kernel) h
theorem b_3_37 (h : wpl (Wq 3 cd_3 post) post [.istore 7, .aload 0, .getfield 6711774417207, .aload 0, .getfield 4408, .iload 7, .iconst 24, .iconst 8, .iload 6, .iconst 4, .irem, .imul, .isub, .ishr, .i2b, .bastore, .aload 0, .dup, .getfield 4408, .iconst 1, .iadd, .putfield 4408, .iinc 6 1, .goto 13] 37 loc stk M) : Wq 3 cd_3 post 37 loc stk M := prefB_run ck_3 _ 37 (by decide +kernel) h
theorem b_3_61 (h : wpl (Wq 3 cd_3 post) post [.iconst 1, .ret 1] 61 loc stk M) : Wq 3 cd_3 post 61 loc stk M := prefB_run ck_3 _ 61 (by decide +kernel) h
end
/-! StaticKernelModel.build(I)I -/
set_option maxRecDepth 100000 in
theorem ck_4 : chkM (mt 4) cd_4 = true := by decide +kernel
section
variable {post : Option AV → AMem → Prop} {loc : Lc} {stk : List AV} {M : AMem}
theorem b_4_0 (h : wpl (Wq 4 cd_4 post) post [.aload 0, .iconst 0, .putfield 4400, .aload 0, .getfield 4601, .ifCond .ne 12, .iload 1, .ifCond .lt 12, .iload 1, .aload 0, .getfield 4408, .if_icmp .le 14, .iconst (-2), .ret 0] 0 loc stk M) : Wq 4 cd_4 post 0 loc stk M := prefB_run ck_4 _ 0 (by decide +kernel) h
theorem b_4_12 (h : wpl (Wq 4 cd_4 post) post [.iconst (-2), .ret 0] 12 loc stk M) : Wq 4 cd_4 post 12 loc stk M := prefB_run ck_4 _ 12 (by decide +kernel) h
theorem b_4_14 (h : wpl (Wq 4 cd_4 post) post [.aload 0, .iload 1, .putfield 4420, .iconst 0, .istore 2] 14 loc stk M) : Wq 4 cd_4 post 14 loc stk M := prefB_run ck_4 _ 14 (by decide +kernel) h
theorem b_4_19 (h : wpl (Wq 4 cd_4 post) post [.iload 2, .iload 1, .if_icmp .ge 32, .aload 0, .getfield 6711775236419, .iload 2, .aload 0, .getfield 6711774417207, .iload 2, .baload, .bastore, .iinc 2 1, .goto 19] 19 loc stk M) : Wq 4 cd_4 post 19 loc stk M := prefB_run ck_4 _ 19 (by decide +kernel) h
theorem b_4_32 (h : wpl (Wq 4 cd_4 post) post [.aload 0, .iconst 0, .putfield 4408, .aload 0, .iconst 0, .putfield 4476, .iconst 0, .istore 2] 32 loc stk M) : Wq 4 cd_4 post 32 loc stk M := prefB_run ck_4 _ 32 (by decide +kernel) h
theorem b_4_40 (h : wpl (Wq 4 cd_4 post) post [.iload 2, .iconst 7, .if_icmp .ge 55, .aload 0, .getfield 11801399683, .iload 2, .iload 2, .iconst 2, .if_icmp .ne 51, .iconst 1, .goto 52] 40 loc stk M) : Wq 4 cd_4 post 40 loc stk M := prefB_run ck_4 _ 40 (by decide +kernel) h
theorem b_4_51 (h : wpl (Wq 4 cd_4 post) post [.iconst 0, .iastore, .iinc 2 1, .goto 40] 51 loc stk M) : Wq 4 cd_4 post 51 loc stk M := prefB_run ck_4 _ 51 (by decide +kernel) h
theorem b_4_52 (h : wpl (Wq 4 cd_4 post) post [.iastore, .iinc 2 1, .goto 40] 52 loc stk M) : Wq 4 cd_4 post 52 loc stk M := prefB_run ck_4 _ 52 (by decide +kernel) h
theorem b_4_55 (h : wpl (Wq 4 cd_4 post) post [.aload 0, .iconst 0, .putfield 4444, .aload 0, .iconst (-1), .putfield 4448, .aload 0, .invokevirtual 1307, .aload 0, .iconst 0, .invokevirtual 2859, .ifCond .eq 76, .aload 0, .iconst 1, .invokevirtual 2859, .ifCond .eq 76, .aload 0, .getfield 4444, .ifCond .ne 76, .iconst 1, .goto 77] 55 loc stk M) : Wq 4 cd_4 post 55 loc stk M := prefB_run ck_4 _ 55 (by decide +kernel) h
theorem b_4_76 (h : wpl (Wq 4 cd_4 post) post [.iconst 0, .istore 2, .aload 0, .aload 0, .getfield 4444, .putfield 4452, .aload 0, .aload 0, .getfield 4448, .putfield 4456, .iload 2, .ifCond .ne 90, .iconst (-1), .ret 0] 76 loc stk M) : Wq 4 cd_4 post 76 loc stk M := prefB_run ck_4 _ 76 (by decide +kernel) h
theorem b_4_77 (h : wpl (Wq 4 cd_4 post) post [.istore 2, .aload 0, .aload 0, .getfield 4444, .putfield 4452, .aload 0, .aload 0, .getfield 4448, .putfield 4456, .iload 2, .ifCond .ne 90, .iconst (-1), .ret 0] 77 loc stk M) : Wq 4 cd_4 post 77 loc stk M := prefB_run ck_4 _ 77 (by decide +kernel) h
theorem b_4_90 (h : wpl (Wq 4 cd_4 post) post [.aload 0, .iconst 2, .invokevirtual 2859, .istore 2, .iconst 0, .istore 3] 90 loc stk M) : Wq 4 cd_4 post 90 loc stk M := prefB_run ck_4 _ 90 (by decide +kernel) h
theorem b_4_96 (h : wpl (Wq 4 cd_4 post) post [.iload 3, .iload 1, .if_icmp .ge 109, .aload 0, .getfield 6711783428495, .iload 3, .aload 0, .getfield 6711775236419, .iload 3, .baload, .bastore, .iinc 3 1, .goto 96] 96 loc stk M) : Wq 4 cd_4 post 96 loc stk M := prefB_run ck_4 _ 96 (by decide +kernel) h
theorem b_4_109 (h : wpl (Wq 4 cd_4 post) post [.iconst 0, .istore 3] 109 loc stk M) : Wq 4 cd_4 post 109 loc stk M := prefB_run ck_4 _ 109 (by decide +kernel) h
theorem b_4_111 (h : wpl (Wq 4 cd_4 post) post [.iload 3, .iconst 7, .if_icmp .ge 124, .aload 0, .getfield 11803038099, .iload 3, .aload 0, .getfield 11801399683, .iload 3, .iaload, .iastore, .iinc 3 1, .goto 111] 111 loc stk M) : Wq 4 cd_4 post 111 loc stk M := prefB_run ck_4 _ 111 (by decide +kernel) h
theorem b_4_124 (h : wpl (Wq 4 cd_4 post) post [.aload 0, .invokevirtual 8987, .iconst 0, .istore 3] 124 loc stk M) : Wq 4 cd_4 post 124 loc stk M := prefB_run ck_4 _ 124 (by decide +kernel) h
theorem b_4_128 (h : wpl (Wq 4 cd_4 post) post [.iload 3, .iconst 16, .if_icmp .ge 143, .aload 0, .getfield 26932023867, .iload 3, .iconst 0, .iastore, .aload 0, .getfield 26932843071, .iload 3, .iconst 0, .iastore, .iinc 3 1, .goto 128] 128 loc stk M) : Wq 4 cd_4 post 128 loc stk M := prefB_run ck_4 _ 128 (by decide +kernel) h
theorem b_4_143 (h : wpl (Wq 4 cd_4 post) post [.aload 0, .iconst 0, .putfield 4692, .aload 0, .invokevirtual 9499, .iconst 0, .ret 0] 143 loc stk M) : Wq 4 cd_4 post 143 loc stk M := prefB_run ck_4 _ 143 (by decide +kernel) h
end
/-! StaticKernelModel.scan()V -/
set_option maxRecDepth 100000 in
theorem ck_5 : chkM (mt 5) cd_5 = true := by decide +kernel
section
variable {post : Option AV → AMem → Prop} {loc : Lc} {stk : List AV} {M : AMem}
theorem b_5_0 (h : wpl (Wq 5 cd_5 post) post [.aload 0, .iconst 0, .putfield 4440, .iconst 0, .istore 1, .iconst 1, .istore 2] 0 loc stk M) : Wq 5 cd_5 post 0 loc stk M := prefB_run ck_5 _ 0 (by decide +kernel) h
theorem b_5_7 (h : wpl (Wq 5 cd_5 post) post [.iload 2, .ifCond .eq 198, .iconst 1, .istore 3] 7 loc stk M) : Wq 5 cd_5 post 7 loc stk M := prefB_run ck_5 _ 7 (by decide +kernel) h
theorem b_5_11 (h : wpl (Wq 5 cd_5 post) post [.iload 3, .ifCond .eq 56, .iconst 0, .istore 3] 11 loc stk M) : Wq 5 cd_5 post 11 loc stk M := prefB_run ck_5 _ 11 (by decide +kernel) h
theorem b_5_15 (h : wpl (Wq 5 cd_5 post) post [.iload 1, .aload 0, .getfield 4420, .if_icmp .ge 33, .aload 0, .iload 1, .invokevirtual 1579, .iconst 10, .if_icmp .eq 29, .aload 0, .iload 1, .invokevirtual 1579, .iconst 32, .if_icmp .ne 33, .iinc 1 1, .iconst 1, .istore 3, .goto 15] 15 loc stk M) : Wq 5 cd_5 post 15 loc stk M := prefB_run ck_5 _ 15 (by decide +kernel) h
theorem b_5_29 (h : wpl (Wq 5 cd_5 post) post [.iinc 1 1, .iconst 1, .istore 3, .goto 15] 29 loc stk M) : Wq 5 cd_5 post 29 loc stk M := prefB_run ck_5 _ 29 (by decide +kernel) h
theorem b_5_33 (h : wpl (Wq 5 cd_5 post) post [.iload 1, .aload 0, .getfield 4420, .if_icmp .ge 11, .aload 0, .iload 1, .invokevirtual 1579, .iconst 35, .if_icmp .ne 11] 33 loc stk M) : Wq 5 cd_5 post 33 loc stk M := prefB_run ck_5 _ 33 (by decide +kernel) h
theorem b_5_42 (h : wpl (Wq 5 cd_5 post) post [.iload 1, .aload 0, .getfield 4420, .if_icmp .ge 53, .aload 0, .iload 1, .invokevirtual 1579, .iconst 10, .if_icmp .eq 53, .iinc 1 1, .goto 42] 42 loc stk M) : Wq 5 cd_5 post 42 loc stk M := prefB_run ck_5 _ 42 (by decide +kernel) h
theorem b_5_53 (h : wpl (Wq 5 cd_5 post) post [.iconst 1, .istore 3, .goto 11] 53 loc stk M) : Wq 5 cd_5 post 53 loc stk M := prefB_run ck_5 _ 53 (by decide +kernel) h
theorem b_5_56 (h : wpl (Wq 5 cd_5 post) post [.iload 1, .istore 4, .iload 1, .aload 0, .getfield 4420, .if_icmp .lt 72, .aload 0, .iconst 0, .aload 0, .getfield 4420, .iconst 0, .iconst 0, .invokevirtual 1883, .iconst 0, .istore 2, .goto 197] 56 loc stk M) : Wq 5 cd_5 post 56 loc stk M := prefB_run ck_5 _ 56 (by decide +kernel) h
theorem b_5_72 (h : wpl (Wq 5 cd_5 post) post [.aload 0, .iload 1, .invokevirtual 1579, .invokestatic 2064, .ifCond .eq 121] 72 loc stk M) : Wq 5 cd_5 post 72 loc stk M := prefB_run ck_5 _ 72 (by decide +kernel) h
theorem b_5_77 (h : wpl (Wq 5 cd_5 post) post [.aload 0, .iload 1, .invokevirtual 1579, .invokestatic 2064, .ifCond .ne 92, .aload 0, .iload 1, .invokevirtual 1579, .invokestatic 2320, .ifCond .ne 92, .aload 0, .iload 1, .invokevirtual 1579, .iconst 95, .if_icmp .ne 94, .iinc 1 1, .goto 77] 77 loc stk M) : Wq 5 cd_5 post 77 loc stk M := prefB_run ck_5 _ 77 (by decide +kernel) h
theorem b_5_92 (h : wpl (Wq 5 cd_5 post) post [.iinc 1 1, .goto 77] 92 loc stk M) : Wq 5 cd_5 post 92 loc stk M := prefB_run ck_5 _ 92 (by decide +kernel) h
theorem b_5_94 (h : wpl (Wq 5 cd_5 post) post [.iload 1, .iload 4, .isub, .iconst 12, .if_icmp .gt 101, .iconst 1, .goto 102] 94 loc stk M) : Wq 5 cd_5 post 94 loc stk M := prefB_run ck_5 _ 94 (by decide +kernel) h
theorem b_5_101 (h : wpl (Wq 5 cd_5 post) post [.iconst 0, .istore 2, .aload 0, .iload 2, .ifCond .eq 113, .aload 0, .iload 4, .iload 1, .iload 4, .isub, .invokevirtual 2619, .goto 114] 101 loc stk M) : Wq 5 cd_5 post 101 loc stk M := prefB_run ck_5 _ 101 (by decide +kernel) h
theorem b_5_102 (h : wpl (Wq 5 cd_5 post) post [.istore 2, .aload 0, .iload 2, .ifCond .eq 113, .aload 0, .iload 4, .iload 1, .iload 4, .isub, .invokevirtual 2619, .goto 114] 102 loc stk M) : Wq 5 cd_5 post 102 loc stk M := prefB_run ck_5 _ 102 (by decide +kernel) h
theorem b_5_113 (h : wpl (Wq 5 cd_5 post) post [.iconst 1, .iload 4, .iload 1, .iload 4, .isub, .iconst 0, .invokevirtual 1883, .goto 197] 113 loc stk M) : Wq 5 cd_5 post 113 loc stk M := prefB_run ck_5 _ 113 (by decide +kernel) h
theorem b_5_114 (h : wpl (Wq 5 cd_5 post) post [.iload 4, .iload 1, .iload 4, .isub, .iconst 0, .invokevirtual 1883, .goto 197] 114 loc stk M) : Wq 5 cd_5 post 114 loc stk M := prefB_run ck_5 _ 114 (by decide +kernel) h
theorem b_5_121 (h : wpl (Wq 5 cd_5 post) post [.aload 0, .iload 1, .invokevirtual 1579, .invokestatic 2320, .ifCond .eq 177, .iconst 0, .istore 5] 121 loc stk M) : Wq 5 cd_5 post 121 loc stk M := prefB_run ck_5 _ 121 (by decide +kernel) h
theorem b_5_128 (h : wpl (Wq 5 cd_5 post) post [.aload 0, .iload 1, .invokevirtual 1579, .invokestatic 2320, .ifCond .eq 147, .iconst 100000, .iconst 10, .iload 5, .imul, .aload 0, .iload 1, .invokevirtual 1579, .iadd, .iconst 48, .isub, .invokestatic 288, .istore 5, .iinc 1 1, .goto 128] 128 loc stk M) : Wq 5 cd_5 post 128 loc stk M := prefB_run ck_5 _ 128 (by decide +kernel) h
theorem b_5_147 (h : wpl (Wq 5 cd_5 post) post [.iload 5, .iconst 65535, .if_icmp .gt 162, .aload 0, .iload 1, .invokevirtual 1579, .invokestatic 2064, .ifCond .ne 162, .aload 0, .iload 1, .invokevirtual 1579, .iconst 95, .if_icmp .eq 162, .iconst 1, .goto 163] 147 loc stk M) : Wq 5 cd_5 post 147 loc stk M := prefB_run ck_5 _ 147 (by decide +kernel) h
theorem b_5_162 (h : wpl (Wq 5 cd_5 post) post [.iconst 0, .istore 2, .aload 0, .iload 2, .ifCond .eq 169, .iconst 3, .goto 170] 162 loc stk M) : Wq 5 cd_5 post 162 loc stk M := prefB_run ck_5 _ 162 (by decide +kernel) h
theorem b_5_163 (h : wpl (Wq 5 cd_5 post) post [.istore 2, .aload 0, .iload 2, .ifCond .eq 169, .iconst 3, .goto 170] 163 loc stk M) : Wq 5 cd_5 post 163 loc stk M := prefB_run ck_5 _ 163 (by decide +kernel) h
theorem b_5_169 (h : wpl (Wq 5 cd_5 post) post [.iconst 1, .iload 4, .iload 1, .iload 4, .isub, .iload 5, .invokevirtual 1883, .goto 197] 169 loc stk M) : Wq 5 cd_5 post 169 loc stk M := prefB_run ck_5 _ 169 (by decide +kernel) h
theorem b_5_170 (h : wpl (Wq 5 cd_5 post) post [.iload 4, .iload 1, .iload 4, .isub, .iload 5, .invokevirtual 1883, .goto 197] 170 loc stk M) : Wq 5 cd_5 post 170 loc stk M := prefB_run ck_5 _ 170 (by decide +kernel) h
theorem b_5_177 (h : wpl (Wq 5 cd_5 post) post [.aload 0, .iload 1, .invokevirtual 1579, .iconst 44, .if_icmp .ne 184, .iconst 1, .goto 185] 177 loc stk M) : Wq 5 cd_5 post 177 loc stk M := prefB_run ck_5 _ 177 (by decide +kernel) h
theorem b_5_184 (h : wpl (Wq 5 cd_5 post) post [.iconst 0, .istore 2, .aload 0, .iload 2, .ifCond .eq 191, .iconst 4, .goto 192] 184 loc stk M) : Wq 5 cd_5 post 184 loc stk M := prefB_run ck_5 _ 184 (by decide +kernel) h
theorem b_5_185 (h : wpl (Wq 5 cd_5 post) post [.istore 2, .aload 0, .iload 2, .ifCond .eq 191, .iconst 4, .goto 192] 185 loc stk M) : Wq 5 cd_5 post 185 loc stk M := prefB_run ck_5 _ 185 (by decide +kernel) h
theorem b_5_191 (h : wpl (Wq 5 cd_5 post) post [.iconst 1, .iload 4, .iconst 1, .iconst 0, .invokevirtual 1883, .iinc 1 1, .goto 7] 191 loc stk M) : Wq 5 cd_5 post 191 loc stk M := prefB_run ck_5 _ 191 (by decide +kernel) h
theorem b_5_192 (h : wpl (Wq 5 cd_5 post) post [.iload 4, .iconst 1, .iconst 0, .invokevirtual 1883, .iinc 1 1, .goto 7] 192 loc stk M) : Wq 5 cd_5 post 192 loc stk M := prefB_run ck_5 _ 192 (by decide +kernel) h
theorem b_5_197 (h : wpl (Wq 5 cd_5 post) post [.goto 7] 197 loc stk M) : Wq 5 cd_5 post 197 loc stk M := prefB_run ck_5 _ 197 (by decide +kernel) h
theorem b_5_198 (h : wpl (Wq 5 cd_5 post) post [.return_] 198 loc stk M) : Wq 5 cd_5 post 198 loc stk M := prefB_run ck_5 _ 198 (by decide +kernel) h
end
/-! StaticKernelModel.byteAt(I)I -/
set_option maxRecDepth 100000 in
theorem ck_6 : chkM (mt 6) cd_6 = true := by decide +kernel
section
variable {post : Option AV → AMem → Prop} {loc : Lc} {stk : List AV} {M : AMem}
theorem b_6_0 (h : wpl (Wq 6 cd_6 post) post [.iload 1, .aload 0, .getfield 4420, .if_icmp .ge 11, .aload 0, .getfield 6711775236419, .iload 1, .baload, .iconst 255, .iand, .goto 12] 0 loc stk M) : Wq 6 cd_6 post 0 loc stk M := prefB_run ck_6 _ 0 (by decide +kernel) h
theorem b_6_11 (h : wpl (Wq 6 cd_6 post) post [.iconst 0, .ret 0] 11 loc stk M) : Wq 6 cd_6 post 11 loc stk M := prefB_run ck_6 _ 11 (by decide +kernel) h
theorem b_6_12 (h : wpl (Wq 6 cd_6 post) post [.ret 0] 12 loc stk M) : Wq 6 cd_6 post 12 loc stk M := prefB_run ck_6 _ 12 (by decide +kernel) h
end
/-! StaticKernelModel.token(IIII)V -/
set_option maxRecDepth 100000 in
theorem ck_7 : chkM (mt 7) cd_7 = true := by decide +kernel
section
variable {post : Option AV → AMem → Prop} {loc : Lc} {stk : List AV} {M : AMem}
theorem b_7_0 (h : wpl (Wq 7 cd_7 post) post [.aload 0, .getfield 6712614916427, .aload 0, .getfield 4440, .iload 1, .iastore, .aload 0, .getfield 6712615735631, .aload 0, .getfield 4440, .iload 2, .iastore, .aload 0, .getfield 6712616554835, .aload 0, .getfield 4440, .iload 3, .iastore, .aload 0, .getfield 6712617374039, .aload 0, .getfield 4440, .iload 4, .iastore, .aload 0, .dup, .getfield 4440, .iconst 1, .iadd, .putfield 4440, .return_] 0 loc stk M) : Wq 7 cd_7 post 0 loc stk M := prefB_run ck_7 _ 0 (by decide +kernel) h
end
/-! StaticKernelModel.isLetter(I)Z -/
set_option maxRecDepth 100000 in
theorem ck_8 : chkM (mt 8) cd_8 = true := by decide +kernel
section
variable {post : Option AV → AMem → Prop} {loc : Lc} {stk : List AV} {M : AMem}
theorem b_8_0 (h : wpl (Wq 8 cd_8 post) post [.iload 0, .iconst 97, .if_icmp .lt 8, .iload 0, .iconst 122, .if_icmp .gt 8, .iconst 1, .goto 9] 0 loc stk M) : Wq 8 cd_8 post 0 loc stk M := prefB_run ck_8 _ 0 (by decide +kernel) h
theorem b_8_8 (h : wpl (Wq 8 cd_8 post) post [.iconst 0, .ret 1] 8 loc stk M) : Wq 8 cd_8 post 8 loc stk M := prefB_run ck_8 _ 8 (by decide +kernel) h
theorem b_8_9 (h : wpl (Wq 8 cd_8 post) post [.ret 1] 9 loc stk M) : Wq 8 cd_8 post 9 loc stk M := prefB_run ck_8 _ 9 (by decide +kernel) h
end
/-! StaticKernelModel.isDigit(I)Z -/
set_option maxRecDepth 100000 in
theorem ck_9 : chkM (mt 9) cd_9 = true := by decide +kernel
section
variable {post : Option AV → AMem → Prop} {loc : Lc} {stk : List AV} {M : AMem}
theorem b_9_0 (h : wpl (Wq 9 cd_9 post) post [.iload 0, .iconst 48, .if_icmp .lt 8, .iload 0, .iconst 57, .if_icmp .gt 8, .iconst 1, .goto 9] 0 loc stk M) : Wq 9 cd_9 post 0 loc stk M := prefB_run ck_9 _ 0 (by decide +kernel) h
theorem b_9_8 (h : wpl (Wq 9 cd_9 post) post [.iconst 0, .ret 1] 8 loc stk M) : Wq 9 cd_9 post 8 loc stk M := prefB_run ck_9 _ 8 (by decide +kernel) h
theorem b_9_9 (h : wpl (Wq 9 cd_9 post) post [.ret 1] 9 loc stk M) : Wq 9 cd_9 post 9 loc stk M := prefB_run ck_9 _ 9 (by decide +kernel) h
end
/-! StaticKernelModel.goesOver(I)Z -/
set_option maxRecDepth 100000 in
theorem ck_11 : chkM (mt 11) cd_11 = true := by decide +kernel
section
variable {post : Option AV → AMem → Prop} {loc : Lc} {stk : List AV} {M : AMem}
theorem b_11_0 (h : wpl (Wq 11 cd_11 post) post [.aload 0, .iload 1, .putfield 4484, .aload 0, .iconst 0, .putfield 4488, .iconst 0, .istore 2] 0 loc stk M) : Wq 11 cd_11 post 0 loc stk M := prefB_run ck_11 _ 0 (by decide +kernel) h
theorem b_11_8 (h : wpl (Wq 11 cd_11 post) post [.aload 0, .iconst 0, .invokevirtual 3115, .ifCond .ne 113, .aload 0, .getfield 6712614916427, .aload 0, .getfield 4488, .iaload, .iconst 10, .isub, .istore 3, .iload 3, .ifCond .lt 25, .iload 3, .iconst 6, .if_icmp .le 28, .aload 0, .invokevirtual 3355, .ret 1] 8 loc stk M) : Wq 11 cd_11 post 8 loc stk M := prefB_run ck_11 _ 8 (by decide +kernel) h
theorem b_11_25 (h : wpl (Wq 11 cd_11 post) post [.aload 0, .invokevirtual 3355, .ret 1] 25 loc stk M) : Wq 11 cd_11 post 25 loc stk M := prefB_run ck_11 _ 25 (by decide +kernel) h
theorem b_11_28 (h : wpl (Wq 11 cd_11 post) post [.aload 0, .dup, .getfield 4488, .iconst 1, .iadd, .putfield 4488, .aload 0, .iconst 2, .invokevirtual 3115, .ifCond .ne 41, .aload 0, .invokevirtual 3355, .ret 1] 28 loc stk M) : Wq 11 cd_11 post 28 loc stk M := prefB_run ck_11 _ 28 (by decide +kernel) h
theorem b_11_41 (h : wpl (Wq 11 cd_11 post) post [.aload 0, .getfield 4484, .ifCond .ne 81, .aload 0, .getfield 1174459191663, .aload 0, .getfield 4476, .iload 3, .iastore, .aload 0, .getfield 1174460010867, .aload 0, .getfield 4476, .aload 0, .getfield 4488, .iastore, .aload 0, .getfield 1174461649275, .aload 0, .getfield 4476, .aload 0, .getfield 11801399683, .iload 3, .iaload, .iastore, .aload 0, .getfield 11801399683, .iload 3, .dup2, .iaload, .iconst 1, .iadd, .iastore, .aload 0, .dup, .getfield 4476, .iconst 1, .iadd, .putfield 4476, .goto 92] 41 loc stk M) : Wq 11 cd_11 post 41 loc stk M := prefB_run ck_11 _ 41 (by decide +kernel) h
theorem b_11_81 (h : wpl (Wq 11 cd_11 post) post [.aload 0, .getfield 4484, .iconst 1, .if_icmp .ne 89, .aload 0, .iload 2, .invokevirtual 3627, .goto 92] 81 loc stk M) : Wq 11 cd_11 post 81 loc stk M := prefB_run ck_11 _ 81 (by decide +kernel) h
theorem b_11_89 (h : wpl (Wq 11 cd_11 post) post [.aload 0, .iload 2, .invokevirtual 4651, .aload 0, .dup, .getfield 4488, .iconst 1, .iadd, .putfield 4488, .aload 0, .iload 2, .iload 3, .invokevirtual 4923, .ifCond .ne 105, .iconst 0, .ret 1] 89 loc stk M) : Wq 11 cd_11 post 89 loc stk M := prefB_run ck_11 _ 89 (by decide +kernel) h
theorem b_11_92 (h : wpl (Wq 11 cd_11 post) post [.aload 0, .dup, .getfield 4488, .iconst 1, .iadd, .putfield 4488, .aload 0, .iload 2, .iload 3, .invokevirtual 4923, .ifCond .ne 105, .iconst 0, .ret 1] 92 loc stk M) : Wq 11 cd_11 post 92 loc stk M := prefB_run ck_11 _ 92 (by decide +kernel) h
theorem b_11_105 (h : wpl (Wq 11 cd_11 post) post [.aload 0, .getfield 1174460830071, .iload 2, .aload 0, .getfield 4488, .iastore, .iinc 2 1, .goto 8] 105 loc stk M) : Wq 11 cd_11 post 105 loc stk M := prefB_run ck_11 _ 105 (by decide +kernel) h
theorem b_11_113 (h : wpl (Wq 11 cd_11 post) post [.iconst 1, .ret 1] 113 loc stk M) : Wq 11 cd_11 post 113 loc stk M := prefB_run ck_11 _ 113 (by decide +kernel) h
end
/-! StaticKernelModel.is(I)Z -/
set_option maxRecDepth 100000 in
theorem ck_12 : chkM (mt 12) cd_12 = true := by decide +kernel
section
variable {post : Option AV → AMem → Prop} {loc : Lc} {stk : List AV} {M : AMem}
theorem b_12_0 (h : wpl (Wq 12 cd_12 post) post [.aload 0, .getfield 6712614916427, .aload 0, .getfield 4488, .iaload, .iload 1, .if_icmp .ne 9, .iconst 1, .goto 10] 0 loc stk M) : Wq 12 cd_12 post 0 loc stk M := prefB_run ck_12 _ 0 (by decide +kernel) h
theorem b_12_9 (h : wpl (Wq 12 cd_12 post) post [.iconst 0, .ret 1] 9 loc stk M) : Wq 12 cd_12 post 9 loc stk M := prefB_run ck_12 _ 9 (by decide +kernel) h
theorem b_12_10 (h : wpl (Wq 12 cd_12 post) post [.ret 1] 10 loc stk M) : Wq 12 cd_12 post 10 loc stk M := prefB_run ck_12 _ 10 (by decide +kernel) h
end
/-! StaticKernelModel.wrong()Z -/
set_option maxRecDepth 100000 in
theorem ck_13 : chkM (mt 13) cd_13 = true := by decide +kernel
section
variable {post : Option AV → AMem → Prop} {loc : Lc} {stk : List AV} {M : AMem}
theorem b_13_0 (h : wpl (Wq 13 cd_13 post) post [.aload 0, .iconst 1, .putfield 4444, .aload 0, .aload 0, .getfield 6712615735631, .aload 0, .getfield 4488, .iaload, .putfield 4448, .iconst 0, .ret 1] 0 loc stk M) : Wq 13 cd_13 post 0 loc stk M := prefB_run ck_13 _ 0 (by decide +kernel) h
end
/-! StaticKernelModel.tells(I)V -/
set_option maxRecDepth 100000 in
theorem ck_14 : chkM (mt 14) cd_14 = true := by decide +kernel
section
variable {post : Option AV → AMem → Prop} {loc : Lc} {stk : List AV} {M : AMem}
theorem b_14_0 (h : wpl (Wq 14 cd_14 post) post [.aload 0, .getfield 1174460010867, .iload 1, .iaload, .istore 2, .aload 0, .getfield 1174459191663, .iload 1, .iaload, .istore 3, .aload 0, .iload 2, .invokevirtual 3883, .iload 1, .if_icmp .eq 19, .aload 0, .iconst 2, .iload 2, .invokevirtual 4411, .iload 3, .ifCond .ne 23, .iconst 8, .goto 42] 0 loc stk M) : Wq 14 cd_14 post 0 loc stk M := prefB_run ck_14 _ 0 (by decide +kernel) h
theorem b_14_19 (h : wpl (Wq 14 cd_14 post) post [.iload 3, .ifCond .ne 23, .iconst 8, .goto 42] 19 loc stk M) : Wq 14 cd_14 post 19 loc stk M := prefB_run ck_14 _ 19 (by decide +kernel) h
theorem b_14_23 (h : wpl (Wq 14 cd_14 post) post [.iload 3, .iconst 1, .if_icmp .ne 28, .iconst 32, .goto 42] 23 loc stk M) : Wq 14 cd_14 post 23 loc stk M := prefB_run ck_14 _ 23 (by decide +kernel) h
theorem b_14_28 (h : wpl (Wq 14 cd_14 post) post [.iload 3, .iconst 2, .if_icmp .ne 33, .iconst 32, .goto 42] 28 loc stk M) : Wq 14 cd_14 post 28 loc stk M := prefB_run ck_14 _ 28 (by decide +kernel) h
theorem b_14_33 (h : wpl (Wq 14 cd_14 post) post [.iload 3, .iconst 4, .if_icmp .eq 39, .iload 3, .iconst 6, .if_icmp .ne 41, .iconst 48, .goto 42] 33 loc stk M) : Wq 14 cd_14 post 33 loc stk M := prefB_run ck_14 _ 33 (by decide +kernel) h
theorem b_14_39 (h : wpl (Wq 14 cd_14 post) post [.iconst 48, .goto 42] 39 loc stk M) : Wq 14 cd_14 post 39 loc stk M := prefB_run ck_14 _ 39 (by decide +kernel) h
theorem b_14_41 (h : wpl (Wq 14 cd_14 post) post [.iconst 16, .istore 4, .aload 0, .getfield 1174461649275, .iload 1, .iaload, .iload 4, .if_icmp .lt 53, .aload 0, .iconst 6, .iload 2, .invokevirtual 4411, .return_] 41 loc stk M) : Wq 14 cd_14 post 41 loc stk M := prefB_run ck_14 _ 41 (by decide +kernel) h
theorem b_14_42 (h : wpl (Wq 14 cd_14 post) post [.istore 4, .aload 0, .getfield 1174461649275, .iload 1, .iaload, .iload 4, .if_icmp .lt 53, .aload 0, .iconst 6, .iload 2, .invokevirtual 4411, .return_] 42 loc stk M) : Wq 14 cd_14 post 42 loc stk M := prefB_run ck_14 _ 42 (by decide +kernel) h
theorem b_14_53 (h : wpl (Wq 14 cd_14 post) post [.return_] 53 loc stk M) : Wq 14 cd_14 post 53 loc stk M := prefB_run ck_14 _ 53 (by decide +kernel) h
end
/-! StaticKernelModel.meaning(I)I -/
set_option maxRecDepth 100000 in
theorem ck_15 : chkM (mt 15) cd_15 = true := by decide +kernel
section
variable {post : Option AV → AMem → Prop} {loc : Lc} {stk : List AV} {M : AMem}
theorem b_15_0 (h : wpl (Wq 15 cd_15 post) post [.iconst 0, .istore 2] 0 loc stk M) : Wq 15 cd_15 post 0 loc stk M := prefB_run ck_15 _ 0 (by decide +kernel) h
theorem b_15_2 (h : wpl (Wq 15 cd_15 post) post [.iload 2, .aload 0, .getfield 4476, .if_icmp .ge 18, .aload 0, .aload 0, .getfield 1174460010867, .iload 2, .iaload, .iload 1, .invokevirtual 4155, .ifCond .eq 16, .iload 2, .ret 0] 2 loc stk M) : Wq 15 cd_15 post 2 loc stk M := prefB_run ck_15 _ 2 (by decide +kernel) h
theorem b_15_16 (h : wpl (Wq 15 cd_15 post) post [.iinc 2 1, .goto 2] 16 loc stk M) : Wq 15 cd_15 post 16 loc stk M := prefB_run ck_15 _ 16 (by decide +kernel) h
theorem b_15_18 (h : wpl (Wq 15 cd_15 post) post [.iconst (-1), .ret 0] 18 loc stk M) : Wq 15 cd_15 post 18 loc stk M := prefB_run ck_15 _ 18 (by decide +kernel) h
end
/-! StaticKernelModel.same(II)Z -/
set_option maxRecDepth 100000 in
theorem ck_16 : chkM (mt 16) cd_16 = true := by decide +kernel
section
variable {post : Option AV → AMem → Prop} {loc : Lc} {stk : List AV} {M : AMem}
theorem b_16_0 (h : wpl (Wq 16 cd_16 post) post [.aload 0, .getfield 6712616554835, .iload 1, .iaload, .aload 0, .getfield 6712616554835, .iload 2, .iaload, .if_icmp .eq 11, .iconst 0, .ret 1] 0 loc stk M) : Wq 16 cd_16 post 0 loc stk M := prefB_run ck_16 _ 0 (by decide +kernel) h
theorem b_16_11 (h : wpl (Wq 16 cd_16 post) post [.iconst 0, .istore 3] 11 loc stk M) : Wq 16 cd_16 post 11 loc stk M := prefB_run ck_16 _ 11 (by decide +kernel) h
theorem b_16_13 (h : wpl (Wq 16 cd_16 post) post [.iload 3, .aload 0, .getfield 6712616554835, .iload 1, .iaload, .if_icmp .ge 42, .aload 0, .getfield 6711775236419, .aload 0, .getfield 6712615735631, .iload 1, .iaload, .iload 3, .iadd, .baload, .aload 0, .getfield 6711775236419, .aload 0, .getfield 6712615735631, .iload 2, .iaload, .iload 3, .iadd, .baload, .if_icmp .eq 40, .iconst 0, .ret 1] 13 loc stk M) : Wq 16 cd_16 post 13 loc stk M := prefB_run ck_16 _ 13 (by decide +kernel) h
theorem b_16_40 (h : wpl (Wq 16 cd_16 post) post [.iinc 3 1, .goto 13] 40 loc stk M) : Wq 16 cd_16 post 40 loc stk M := prefB_run ck_16 _ 40 (by decide +kernel) h
theorem b_16_42 (h : wpl (Wq 16 cd_16 post) post [.iconst 1, .ret 1] 42 loc stk M) : Wq 16 cd_16 post 42 loc stk M := prefB_run ck_16 _ 42 (by decide +kernel) h
end
/-! StaticKernelModel.found(II)V -/
set_option maxRecDepth 100000 in
theorem ck_17 : chkM (mt 17) cd_17 = true := by decide +kernel
section
variable {post : Option AV → AMem → Prop} {loc : Lc} {stk : List AV} {M : AMem}
theorem b_17_0 (h : wpl (Wq 17 cd_17 post) post [.aload 0, .getfield 4444, .ifCond .eq 21, .aload 0, .getfield 6712615735631, .iload 2, .iaload, .aload 0, .getfield 4448, .if_icmp .lt 21, .aload 0, .getfield 6712615735631, .iload 2, .iaload, .aload 0, .getfield 4448, .if_icmp .ne 30, .iload 1, .aload 0, .getfield 4444, .if_icmp .ge 30, .aload 0, .iload 1, .putfield 4444, .aload 0, .aload 0, .getfield 6712615735631, .iload 2, .iaload, .putfield 4448, .return_] 0 loc stk M) : Wq 17 cd_17 post 0 loc stk M := prefB_run ck_17 _ 0 (by decide +kernel) h
theorem b_17_21 (h : wpl (Wq 17 cd_17 post) post [.aload 0, .iload 1, .putfield 4444, .aload 0, .aload 0, .getfield 6712615735631, .iload 2, .iaload, .putfield 4448, .return_] 21 loc stk M) : Wq 17 cd_17 post 21 loc stk M := prefB_run ck_17 _ 21 (by decide +kernel) h
theorem b_17_30 (h : wpl (Wq 17 cd_17 post) post [.return_] 30 loc stk M) : Wq 17 cd_17 post 30 loc stk M := prefB_run ck_17 _ 30 (by decide +kernel) h
end
/-! StaticKernelModel.named(I)V -/
set_option maxRecDepth 100000 in
theorem ck_18 : chkM (mt 18) cd_18 = true := by decide +kernel
section
variable {post : Option AV → AMem → Prop} {loc : Lc} {stk : List AV} {M : AMem}
theorem b_18_0 (h : wpl (Wq 18 cd_18 post) post [.iconst 64, .aload 0, .getfield 1174459191663, .iload 1, .iaload, .imul, .aload 0, .getfield 1174461649275, .iload 1, .iaload, .iadd, .istore 2, .aload 0, .getfield 751679082903, .iload 2, .aload 0, .getfield 6712615735631, .aload 0, .getfield 1174460010867, .iload 1, .iaload, .iaload, .iastore, .aload 0, .getfield 751679902107, .iload 2, .aload 0, .getfield 6712616554835, .aload 0, .getfield 1174460010867, .iload 1, .iaload, .iaload, .iastore, .return_] 0 loc stk M) : Wq 18 cd_18 post 0 loc stk M := prefB_run ck_18 _ 0 (by decide +kernel) h
end
/-! StaticKernelModel.rest(II)Z -/
set_option maxRecDepth 100000 in
theorem ck_19 : chkM (mt 19) cd_19 = true := by decide +kernel
section
variable {post : Option AV → AMem → Prop} {loc : Lc} {stk : List AV} {M : AMem}
theorem b_19_0 (h : wpl (Wq 19 cd_19 post) post [.aload 0, .getfield 1174461649275, .iload 1, .iaload, .istore 3, .iload 2, .tableswitch 28 2 6 #[7, 11, 15, 20, 24]] 0 loc stk M) : Wq 19 cd_19 post 0 loc stk M := prefB_run ck_19 _ 0 (by decide +kernel) h
theorem b_19_7 (h : wpl (Wq 19 cd_19 post) post [.aload 0, .iload 3, .invokevirtual 5163, .ret 1] 7 loc stk M) : Wq 19 cd_19 post 7 loc stk M := prefB_run ck_19 _ 7 (by decide +kernel) h
theorem b_19_11 (h : wpl (Wq 19 cd_19 post) post [.aload 0, .iload 3, .invokevirtual 6443, .ret 1] 11 loc stk M) : Wq 19 cd_19 post 11 loc stk M := prefB_run ck_19 _ 11 (by decide +kernel) h
theorem b_19_15 (h : wpl (Wq 19 cd_19 post) post [.aload 0, .iload 1, .iload 3, .invokevirtual 7483, .ret 1] 15 loc stk M) : Wq 19 cd_19 post 15 loc stk M := prefB_run ck_19 _ 15 (by decide +kernel) h
theorem b_19_20 (h : wpl (Wq 19 cd_19 post) post [.aload 0, .iload 3, .invokevirtual 8235, .ret 1] 20 loc stk M) : Wq 19 cd_19 post 20 loc stk M := prefB_run ck_19 _ 20 (by decide +kernel) h
theorem b_19_24 (h : wpl (Wq 19 cd_19 post) post [.aload 0, .iload 3, .invokevirtual 8491, .ret 1] 24 loc stk M) : Wq 19 cd_19 post 24 loc stk M := prefB_run ck_19 _ 24 (by decide +kernel) h
theorem b_19_28 (h : wpl (Wq 19 cd_19 post) post [.iconst 1, .ret 1] 28 loc stk M) : Wq 19 cd_19 post 28 loc stk M := prefB_run ck_19 _ 28 (by decide +kernel) h
end
/-! StaticKernelModel.tellsResource(I)Z -/
set_option maxRecDepth 100000 in
theorem ck_20 : chkM (mt 20) cd_20 = true := by decide +kernel
section
variable {post : Option AV → AMem → Prop} {loc : Lc} {stk : List AV} {M : AMem}
theorem b_20_0 (h : wpl (Wq 20 cd_20 post) post [.aload 0, .getfield 4484, .iconst 2, .if_icmp .ne 16, .aload 0, .getfield 53958250911, .iload 1, .aload 0, .iconst 17, .invokevirtual 3115, .bastore, .aload 0, .getfield 53749354915, .iload 1, .iconst (-1), .iastore, .aload 0, .iconst 17, .invokevirtual 3115, .ifCond .eq 27, .aload 0, .dup, .getfield 4488, .iconst 1, .iadd, .putfield 4488, .goto 97] 0 loc stk M) : Wq 20 cd_20 post 0 loc stk M := prefB_run ck_20 _ 0 (by decide +kernel) h
theorem b_20_16 (h : wpl (Wq 20 cd_20 post) post [.aload 0, .iconst 17, .invokevirtual 3115, .ifCond .eq 27, .aload 0, .dup, .getfield 4488, .iconst 1, .iadd, .putfield 4488, .goto 97] 16 loc stk M) : Wq 20 cd_20 post 16 loc stk M := prefB_run ck_20 _ 16 (by decide +kernel) h
theorem b_20_27 (h : wpl (Wq 20 cd_20 post) post [.aload 0, .iconst 18, .invokevirtual 3115, .ifCond .eq 97, .aload 0, .dup, .getfield 4488, .iconst 1, .iadd, .putfield 4488, .aload 0, .iconst 2, .invokevirtual 3115, .ifCond .ne 44, .aload 0, .invokevirtual 3355, .ret 1] 27 loc stk M) : Wq 20 cd_20 post 27 loc stk M := prefB_run ck_20 _ 27 (by decide +kernel) h
theorem b_20_44 (h : wpl (Wq 20 cd_20 post) post [.aload 0, .getfield 4484, .iconst 1, .if_icmp .ne 79, .aload 0, .aload 0, .getfield 4488, .invokevirtual 5419, .iconst 2, .if_icmp .eq 60, .aload 0, .iconst 3, .aload 0, .getfield 4488, .invokevirtual 4411, .goto 79] 44 loc stk M) : Wq 20 cd_20 post 44 loc stk M := prefB_run ck_20 _ 44 (by decide +kernel) h
theorem b_20_60 (h : wpl (Wq 20 cd_20 post) post [.aload 0, .aload 0, .aload 0, .getfield 4488, .invokevirtual 3883, .invokevirtual 5675, .ifCond .ne 74, .aload 0, .aload 0, .aload 0, .getfield 4488, .invokevirtual 3883, .invokevirtual 5931, .ifCond .eq 79, .aload 0, .iconst 5, .aload 0, .getfield 4488, .invokevirtual 4411, .aload 0, .getfield 4484, .iconst 2, .if_icmp .ne 91, .aload 0, .getfield 53749354915, .iload 1, .aload 0, .aload 0, .getfield 4488, .invokevirtual 6187, .iastore, .aload 0, .dup, .getfield 4488, .iconst 1, .iadd, .putfield 4488, .iconst 1, .ret 1] 60 loc stk M) : Wq 20 cd_20 post 60 loc stk M := prefB_run ck_20 _ 60 (by decide +kernel) h
theorem b_20_74 (h : wpl (Wq 20 cd_20 post) post [.aload 0, .iconst 5, .aload 0, .getfield 4488, .invokevirtual 4411, .aload 0, .getfield 4484, .iconst 2, .if_icmp .ne 91, .aload 0, .getfield 53749354915, .iload 1, .aload 0, .aload 0, .getfield 4488, .invokevirtual 6187, .iastore, .aload 0, .dup, .getfield 4488, .iconst 1, .iadd, .putfield 4488, .iconst 1, .ret 1] 74 loc stk M) : Wq 20 cd_20 post 74 loc stk M := prefB_run ck_20 _ 74 (by decide +kernel) h
theorem b_20_79 (h : wpl (Wq 20 cd_20 post) post [.aload 0, .getfield 4484, .iconst 2, .if_icmp .ne 91, .aload 0, .getfield 53749354915, .iload 1, .aload 0, .aload 0, .getfield 4488, .invokevirtual 6187, .iastore, .aload 0, .dup, .getfield 4488, .iconst 1, .iadd, .putfield 4488, .iconst 1, .ret 1] 79 loc stk M) : Wq 20 cd_20 post 79 loc stk M := prefB_run ck_20 _ 79 (by decide +kernel) h
theorem b_20_91 (h : wpl (Wq 20 cd_20 post) post [.aload 0, .dup, .getfield 4488, .iconst 1, .iadd, .putfield 4488, .iconst 1, .ret 1] 91 loc stk M) : Wq 20 cd_20 post 91 loc stk M := prefB_run ck_20 _ 91 (by decide +kernel) h
theorem b_20_97 (h : wpl (Wq 20 cd_20 post) post [.iconst 1, .ret 1] 97 loc stk M) : Wq 20 cd_20 post 97 loc stk M := prefB_run ck_20 _ 97 (by decide +kernel) h
end
/-! StaticKernelModel.sortOf(I)I -/
set_option maxRecDepth 100000 in
theorem ck_21 : chkM (mt 21) cd_21 = true := by decide +kernel
section
variable {post : Option AV → AMem → Prop} {loc : Lc} {stk : List AV} {M : AMem}
theorem b_21_0 (h : wpl (Wq 21 cd_21 post) post [.aload 0, .iload 1, .invokevirtual 3883, .istore 2, .iload 2, .iconst (-1), .if_icmp .ne 9, .iconst (-1), .goto 13] 0 loc stk M) : Wq 21 cd_21 post 0 loc stk M := prefB_run ck_21 _ 0 (by decide +kernel) h
theorem b_21_9 (h : wpl (Wq 21 cd_21 post) post [.aload 0, .getfield 1174459191663, .iload 2, .iaload, .ret 0] 9 loc stk M) : Wq 21 cd_21 post 9 loc stk M := prefB_run ck_21 _ 9 (by decide +kernel) h
theorem b_21_13 (h : wpl (Wq 21 cd_21 post) post [.ret 0] 13 loc stk M) : Wq 21 cd_21 post 13 loc stk M := prefB_run ck_21 _ 13 (by decide +kernel) h
end
/-! StaticKernelModel.isInternal(I)Z -/
set_option maxRecDepth 100000 in
theorem ck_22 : chkM (mt 22) cd_22 = true := by decide +kernel
section
variable {post : Option AV → AMem → Prop} {loc : Lc} {stk : List AV} {M : AMem}
theorem b_22_0 (h : wpl (Wq 22 cd_22 post) post [.aload 0, .getfield 6712614916427, .aload 0, .getfield 1174460010867, .iload 1, .iaload, .iconst 1, .iadd, .iaload, .iconst 17, .if_icmp .ne 13, .iconst 1, .goto 14] 0 loc stk M) : Wq 22 cd_22 post 0 loc stk M := prefB_run ck_22 _ 0 (by decide +kernel) h
theorem b_22_13 (h : wpl (Wq 22 cd_22 post) post [.iconst 0, .ret 1] 13 loc stk M) : Wq 22 cd_22 post 13 loc stk M := prefB_run ck_22 _ 13 (by decide +kernel) h
theorem b_22_14 (h : wpl (Wq 22 cd_22 post) post [.ret 1] 14 loc stk M) : Wq 22 cd_22 post 14 loc stk M := prefB_run ck_22 _ 14 (by decide +kernel) h
end
/-! StaticKernelModel.isRing(I)Z -/
set_option maxRecDepth 100000 in
theorem ck_23 : chkM (mt 23) cd_23 = true := by decide +kernel
section
variable {post : Option AV → AMem → Prop} {loc : Lc} {stk : List AV} {M : AMem}
theorem b_23_0 (h : wpl (Wq 23 cd_23 post) post [.iload 1, .istore 2, .iconst 0, .istore 3] 0 loc stk M) : Wq 23 cd_23 post 0 loc stk M := prefB_run ck_23 _ 0 (by decide +kernel) h
theorem b_23_4 (h : wpl (Wq 23 cd_23 post) post [.iload 3, .aload 0, .getfield 4476, .if_icmp .gt 41, .iload 2, .iconst (-1), .if_icmp .eq 28, .aload 0, .getfield 1174459191663, .iload 2, .iaload, .iconst 2, .if_icmp .ne 28, .aload 0, .getfield 6712614916427, .aload 0, .getfield 1174460010867, .iload 2, .iaload, .iconst 1, .iadd, .iaload, .iconst 18, .if_icmp .eq 30, .iconst 0, .ret 1] 4 loc stk M) : Wq 23 cd_23 post 4 loc stk M := prefB_run ck_23 _ 4 (by decide +kernel) h
theorem b_23_28 (h : wpl (Wq 23 cd_23 post) post [.iconst 0, .ret 1] 28 loc stk M) : Wq 23 cd_23 post 28 loc stk M := prefB_run ck_23 _ 28 (by decide +kernel) h
theorem b_23_30 (h : wpl (Wq 23 cd_23 post) post [.aload 0, .aload 0, .getfield 1174460010867, .iload 2, .iaload, .iconst 2, .iadd, .invokevirtual 3883, .istore 2, .iinc 3 1, .goto 4] 30 loc stk M) : Wq 23 cd_23 post 30 loc stk M := prefB_run ck_23 _ 30 (by decide +kernel) h
theorem b_23_41 (h : wpl (Wq 23 cd_23 post) post [.iconst 1, .ret 1] 41 loc stk M) : Wq 23 cd_23 post 41 loc stk M := prefB_run ck_23 _ 41 (by decide +kernel) h
end
/-! StaticKernelModel.numberOf(I)I -/
set_option maxRecDepth 100000 in
theorem ck_24 : chkM (mt 24) cd_24 = true := by decide +kernel
section
variable {post : Option AV → AMem → Prop} {loc : Lc} {stk : List AV} {M : AMem}
theorem b_24_0 (h : wpl (Wq 24 cd_24 post) post [.aload 0, .getfield 1174461649275, .aload 0, .iload 1, .invokevirtual 3883, .iaload, .ret 0] 0 loc stk M) : Wq 24 cd_24 post 0 loc stk M := prefB_run ck_24 _ 0 (by decide +kernel) h
end
/-! StaticKernelModel.tellsCounter(I)Z -/
set_option maxRecDepth 100000 in
theorem ck_25 : chkM (mt 25) cd_25 = true := by decide +kernel
section
variable {post : Option AV → AMem → Prop} {loc : Lc} {stk : List AV} {M : AMem}
theorem b_25_0 (h : wpl (Wq 25 cd_25 post) post [.aload 0, .iconst 19, .invokevirtual 6699, .istore 2, .iload 2, .iconst (-1), .if_icmp .ne 9, .iconst 0, .ret 1] 0 loc stk M) : Wq 25 cd_25 post 0 loc stk M := prefB_run ck_25 _ 0 (by decide +kernel) h
theorem b_25_9 (h : wpl (Wq 25 cd_25 post) post [.aload 0, .iconst 20, .invokevirtual 6699, .istore 3, .iload 3, .iconst (-1), .if_icmp .ne 18, .iconst 0, .ret 1] 9 loc stk M) : Wq 25 cd_25 post 9 loc stk M := prefB_run ck_25 _ 9 (by decide +kernel) h
theorem b_25_18 (h : wpl (Wq 25 cd_25 post) post [.aload 0, .iconst 21, .invokevirtual 6699, .istore 4, .iload 4, .iconst (-1), .if_icmp .ne 27, .iconst 0, .ret 1] 18 loc stk M) : Wq 25 cd_25 post 18 loc stk M := prefB_run ck_25 _ 18 (by decide +kernel) h
theorem b_25_27 (h : wpl (Wq 25 cd_25 post) post [.aload 0, .iload 2, .iconst 1, .iconst 65535, .invokevirtual 7243, .aload 0, .iload 3, .iconst 1, .iconst 1000, .invokevirtual 7243, .aload 0, .iload 4, .iconst 1, .aload 0, .getfield 6712617374039, .iload 2, .iaload, .invokevirtual 7243, .aload 0, .getfield 4484, .iconst 2, .if_icmp .ne 73, .aload 0, .getfield 26907447723, .iload 1, .aload 0, .getfield 6712617374039, .iload 2, .iaload, .iastore, .aload 0, .getfield 26908266927, .iload 1, .aload 0, .getfield 6712617374039, .iload 3, .iaload, .iastore, .aload 0, .getfield 26909086131, .iload 1, .aload 0, .getfield 6712617374039, .iload 4, .iaload, .iastore, .iconst 1, .ret 1] 27 loc stk M) : Wq 25 cd_25 post 27 loc stk M := prefB_run ck_25 _ 27 (by decide +kernel) h
theorem b_25_73 (h : wpl (Wq 25 cd_25 post) post [.iconst 1, .ret 1] 73 loc stk M) : Wq 25 cd_25 post 73 loc stk M := prefB_run ck_25 _ 73 (by decide +kernel) h
end
/-! StaticKernelModel.number(I)I -/
set_option maxRecDepth 100000 in
theorem ck_26 : chkM (mt 26) cd_26 = true := by decide +kernel
section
variable {post : Option AV → AMem → Prop} {loc : Lc} {stk : List AV} {M : AMem}
theorem b_26_0 (h : wpl (Wq 26 cd_26 post) post [.aload 0, .iload 1, .invokevirtual 6955, .ifCond .ne 6, .iconst (-1), .ret 0] 0 loc stk M) : Wq 26 cd_26 post 0 loc stk M := prefB_run ck_26 _ 0 (by decide +kernel) h
theorem b_26_6 (h : wpl (Wq 26 cd_26 post) post [.aload 0, .iconst 3, .invokevirtual 3115, .ifCond .ne 15, .aload 0, .invokevirtual 3355, .istore 2, .iconst (-1), .ret 0] 6 loc stk M) : Wq 26 cd_26 post 6 loc stk M := prefB_run ck_26 _ 6 (by decide +kernel) h
theorem b_26_15 (h : wpl (Wq 26 cd_26 post) post [.aload 0, .dup, .getfield 4488, .iconst 1, .iadd, .putfield 4488, .aload 0, .getfield 4488, .iconst 1, .isub, .ret 0] 15 loc stk M) : Wq 26 cd_26 post 15 loc stk M := prefB_run ck_26 _ 15 (by decide +kernel) h
end
/-! StaticKernelModel.wants(I)Z -/
set_option maxRecDepth 100000 in
theorem ck_27 : chkM (mt 27) cd_27 = true := by decide +kernel
section
variable {post : Option AV → AMem → Prop} {loc : Lc} {stk : List AV} {M : AMem}
theorem b_27_0 (h : wpl (Wq 27 cd_27 post) post [.aload 0, .getfield 6712614916427, .aload 0, .getfield 4488, .iaload, .iload 1, .if_icmp .eq 10, .aload 0, .invokevirtual 3355, .ret 1] 0 loc stk M) : Wq 27 cd_27 post 0 loc stk M := prefB_run ck_27 _ 0 (by decide +kernel) h
theorem b_27_10 (h : wpl (Wq 27 cd_27 post) post [.aload 0, .dup, .getfield 4488, .iconst 1, .iadd, .putfield 4488, .iconst 1, .ret 1] 10 loc stk M) : Wq 27 cd_27 post 10 loc stk M := prefB_run ck_27 _ 10 (by decide +kernel) h
end
/-! StaticKernelModel.range(III)V -/
set_option maxRecDepth 100000 in
theorem ck_28 : chkM (mt 28) cd_28 = true := by decide +kernel
section
variable {post : Option AV → AMem → Prop} {loc : Lc} {stk : List AV} {M : AMem}
theorem b_28_0 (h : wpl (Wq 28 cd_28 post) post [.aload 0, .getfield 4484, .iconst 1, .if_icmp .ne 20, .aload 0, .getfield 6712617374039, .iload 1, .iaload, .iload 2, .if_icmp .lt 16, .aload 0, .getfield 6712617374039, .iload 1, .iaload, .iload 3, .if_icmp .le 20, .aload 0, .iconst 4, .iload 1, .invokevirtual 4411, .return_] 0 loc stk M) : Wq 28 cd_28 post 0 loc stk M := prefB_run ck_28 _ 0 (by decide +kernel) h
theorem b_28_16 (h : wpl (Wq 28 cd_28 post) post [.aload 0, .iconst 4, .iload 1, .invokevirtual 4411, .return_] 16 loc stk M) : Wq 28 cd_28 post 16 loc stk M := prefB_run ck_28 _ 16 (by decide +kernel) h
theorem b_28_20 (h : wpl (Wq 28 cd_28 post) post [.return_] 20 loc stk M) : Wq 28 cd_28 post 20 loc stk M := prefB_run ck_28 _ 20 (by decide +kernel) h
end
/-! StaticKernelModel.tellsTask(II)Z -/
set_option maxRecDepth 100000 in
theorem ck_29 : chkM (mt 29) cd_29 = true := by decide +kernel
section
variable {post : Option AV → AMem → Prop} {loc : Lc} {stk : List AV} {M : AMem}
theorem b_29_0 (h : wpl (Wq 29 cd_29 post) post [.aload 0, .iconst 22, .invokevirtual 6699, .istore 3, .iload 3, .iconst (-1), .if_icmp .ne 9, .iconst 0, .ret 1] 0 loc stk M) : Wq 29 cd_29 post 0 loc stk M := prefB_run ck_29 _ 0 (by decide +kernel) h
theorem b_29_9 (h : wpl (Wq 29 cd_29 post) post [.aload 0, .iload 3, .iconst 0, .iconst 63, .invokevirtual 7243, .aload 0, .getfield 4484, .iconst 2, .if_icmp .ne 51, .aload 0, .getfield 80596996535, .iload 2, .aload 0, .getfield 6712617374039, .iload 3, .iaload, .iastore, .aload 0, .getfield 80807530939, .iload 2, .iconst 0, .bastore, .aload 0, .getfield 80598634943, .iload 2, .iconst 1, .iastore, .aload 0, .getfield 80599454147, .iload 2, .iconst 0, .iastore, .aload 0, .getfield 80600273351, .iload 2, .iconst 0, .iastore, .aload 0, .getfield 80601092555, .iload 2, .iconst 0, .iastore, .iconst 0, .istore 4] 9 loc stk M) : Wq 29 cd_29 post 9 loc stk M := prefB_run ck_29 _ 9 (by decide +kernel) h
theorem b_29_51 (h : wpl (Wq 29 cd_29 post) post [.iconst 0, .istore 4] 51 loc stk M) : Wq 29 cd_29 post 51 loc stk M := prefB_run ck_29 _ 51 (by decide +kernel) h
theorem b_29_53 (h : wpl (Wq 29 cd_29 post) post [.aload 0, .iconst 32, .invokevirtual 3115, .ifCond .ne 73, .aload 0, .iconst 33, .invokevirtual 3115, .ifCond .ne 73, .aload 0, .iconst 29, .invokevirtual 3115, .ifCond .ne 73, .aload 0, .iconst 24, .invokevirtual 3115, .ifCond .ne 73, .aload 0, .iconst 34, .invokevirtual 3115, .ifCond .eq 226, .aload 0, .getfield 6712614916427, .aload 0, .getfield 4488, .iaload, .istore 5, .aload 0, .getfield 4484, .iconst 1, .if_icmp .ne 97, .iload 4, .iload 5, .iconst 10, .isub, .ishr, .iconst 1, .iand, .iconst 1, .if_icmp .ne 97, .aload 0, .iconst 2, .aload 0, .getfield 4488, .invokevirtual 4411, .iload 4, .iconst 1, .iload 5, .iconst 10, .isub, .ishl, .ior, .istore 4, .iload 5, .iconst 33, .if_icmp .ne 154, .aload 0, .iconst 33, .invokevirtual 6699, .istore 6, .iload 6, .iconst (-1), .if_icmp .ne 117, .iconst 0, .ret 1] 53 loc stk M) : Wq 29 cd_29 post 53 loc stk M := prefB_run ck_29 _ 53 (by decide +kernel) h
theorem b_29_73 (h : wpl (Wq 29 cd_29 post) post [.aload 0, .getfield 6712614916427, .aload 0, .getfield 4488, .iaload, .istore 5, .aload 0, .getfield 4484, .iconst 1, .if_icmp .ne 97, .iload 4, .iload 5, .iconst 10, .isub, .ishr, .iconst 1, .iand, .iconst 1, .if_icmp .ne 97, .aload 0, .iconst 2, .aload 0, .getfield 4488, .invokevirtual 4411, .iload 4, .iconst 1, .iload 5, .iconst 10, .isub, .ishl, .ior, .istore 4, .iload 5, .iconst 33, .if_icmp .ne 154, .aload 0, .iconst 33, .invokevirtual 6699, .istore 6, .iload 6, .iconst (-1), .if_icmp .ne 117, .iconst 0, .ret 1] 73 loc stk M) : Wq 29 cd_29 post 73 loc stk M := prefB_run ck_29 _ 73 (by decide +kernel) h
theorem b_29_97 (h : wpl (Wq 29 cd_29 post) post [.iload 4, .iconst 1, .iload 5, .iconst 10, .isub, .ishl, .ior, .istore 4, .iload 5, .iconst 33, .if_icmp .ne 154, .aload 0, .iconst 33, .invokevirtual 6699, .istore 6, .iload 6, .iconst (-1), .if_icmp .ne 117, .iconst 0, .ret 1] 97 loc stk M) : Wq 29 cd_29 post 97 loc stk M := prefB_run ck_29 _ 97 (by decide +kernel) h
theorem b_29_117 (h : wpl (Wq 29 cd_29 post) post [.aload 0, .iload 6, .iconst 1, .iconst 8, .invokevirtual 7243, .aload 0, .getfield 4484, .iconst 1, .if_icmp .ne 141, .aload 0, .getfield 6712617374039, .iload 6, .iaload, .iconst 1, .if_icmp .le 141, .aload 0, .iload 1, .iconst (-1), .invokevirtual 7739, .ifCond .eq 141, .aload 0, .iconst 5, .iload 6, .invokevirtual 4411, .aload 0, .getfield 4484, .iconst 2, .if_icmp .ne 53, .aload 0, .getfield 80598634943, .iload 2, .aload 0, .getfield 6712617374039, .iload 6, .iaload, .iastore, .goto 53] 117 loc stk M) : Wq 29 cd_29 post 117 loc stk M := prefB_run ck_29 _ 117 (by decide +kernel) h
theorem b_29_141 (h : wpl (Wq 29 cd_29 post) post [.aload 0, .getfield 4484, .iconst 2, .if_icmp .ne 53, .aload 0, .getfield 80598634943, .iload 2, .aload 0, .getfield 6712617374039, .iload 6, .iaload, .iastore, .goto 53] 141 loc stk M) : Wq 29 cd_29 post 141 loc stk M := prefB_run ck_29 _ 141 (by decide +kernel) h
theorem b_29_154 (h : wpl (Wq 29 cd_29 post) post [.aload 0, .dup, .getfield 4488, .iconst 1, .iadd, .putfield 4488, .iload 5, .iconst 32, .if_icmp .ne 173, .aload 0, .getfield 4484, .iconst 2, .if_icmp .ne 225, .aload 0, .getfield 80807530939, .iload 2, .iconst 1, .bastore, .goto 225] 154 loc stk M) : Wq 29 cd_29 post 154 loc stk M := prefB_run ck_29 _ 154 (by decide +kernel) h
theorem b_29_173 (h : wpl (Wq 29 cd_29 post) post [.aload 0, .iload 5, .iconst 29, .if_icmp .ne 179, .iconst 0, .goto 185] 173 loc stk M) : Wq 29 cd_29 post 173 loc stk M := prefB_run ck_29 _ 173 (by decide +kernel) h
theorem b_29_179 (h : wpl (Wq 29 cd_29 post) post [.iload 5, .iconst 24, .if_icmp .ne 184, .iconst 2, .goto 185] 179 loc stk M) : Wq 29 cd_29 post 179 loc stk M := prefB_run ck_29 _ 179 (by decide +kernel) h
theorem b_29_184 (h : wpl (Wq 29 cd_29 post) post [.iconst 1, .iload 5, .iconst 24, .if_icmp .ne 190, .iconst 1, .goto 191] 184 loc stk M) : Wq 29 cd_29 post 184 loc stk M := prefB_run ck_29 _ 184 (by decide +kernel) h
theorem b_29_185 (h : wpl (Wq 29 cd_29 post) post [.iload 5, .iconst 24, .if_icmp .ne 190, .iconst 1, .goto 191] 185 loc stk M) : Wq 29 cd_29 post 185 loc stk M := prefB_run ck_29 _ 185 (by decide +kernel) h
theorem b_29_190 (h : wpl (Wq 29 cd_29 post) post [.iconst 0, .invokevirtual 7995, .ifCond .ne 195, .iconst 0, .ret 1] 190 loc stk M) : Wq 29 cd_29 post 190 loc stk M := prefB_run ck_29 _ 190 (by decide +kernel) h
theorem b_29_191 (h : wpl (Wq 29 cd_29 post) post [.invokevirtual 7995, .ifCond .ne 195, .iconst 0, .ret 1] 191 loc stk M) : Wq 29 cd_29 post 191 loc stk M := prefB_run ck_29 _ 191 (by decide +kernel) h
theorem b_29_195 (h : wpl (Wq 29 cd_29 post) post [.aload 0, .getfield 4484, .iconst 2, .if_icmp .ne 225, .iload 5, .iconst 29, .if_icmp .ne 209, .aload 0, .getfield 80600273351, .iload 2, .aload 0, .getfield 4592, .iastore, .goto 225] 195 loc stk M) : Wq 29 cd_29 post 195 loc stk M := prefB_run ck_29 _ 195 (by decide +kernel) h
theorem b_29_209 (h : wpl (Wq 29 cd_29 post) post [.iload 5, .iconst 24, .if_icmp .ne 219, .aload 0, .getfield 80601092555, .iload 2, .aload 0, .getfield 4592, .iastore, .goto 225] 209 loc stk M) : Wq 29 cd_29 post 209 loc stk M := prefB_run ck_29 _ 209 (by decide +kernel) h
theorem b_29_219 (h : wpl (Wq 29 cd_29 post) post [.aload 0, .getfield 80599454147, .iload 2, .aload 0, .getfield 4592, .iastore, .goto 53] 219 loc stk M) : Wq 29 cd_29 post 219 loc stk M := prefB_run ck_29 _ 219 (by decide +kernel) h
theorem b_29_225 (h : wpl (Wq 29 cd_29 post) post [.goto 53] 225 loc stk M) : Wq 29 cd_29 post 225 loc stk M := prefB_run ck_29 _ 225 (by decide +kernel) h
theorem b_29_226 (h : wpl (Wq 29 cd_29 post) post [.iconst 1, .ret 1] 226 loc stk M) : Wq 29 cd_29 post 226 loc stk M := prefB_run ck_29 _ 226 (by decide +kernel) h
end
/-! StaticKernelModel.waitsFor(II)Z -/
set_option maxRecDepth 100000 in
theorem ck_30 : chkM (mt 30) cd_30 = true := by decide +kernel
section
variable {post : Option AV → AMem → Prop} {loc : Lc} {stk : List AV} {M : AMem}
theorem b_30_0 (h : wpl (Wq 30 cd_30 post) post [.aload 0, .getfield 1174460010867, .iload 1, .iaload, .iconst 1, .iadd, .istore 3] 0 loc stk M) : Wq 30 cd_30 post 0 loc stk M := prefB_run ck_30 _ 0 (by decide +kernel) h
theorem b_30_7 (h : wpl (Wq 30 cd_30 post) post [.iload 3, .aload 0, .getfield 1174460830071, .iload 1, .iaload, .if_icmp .ge 56, .aload 0, .getfield 6712614916427, .iload 3, .iaload, .iconst 34, .if_icmp .eq 20, .goto 54] 7 loc stk M) : Wq 30 cd_30 post 7 loc stk M := prefB_run ck_30 _ 7 (by decide +kernel) h
theorem b_30_20 (h : wpl (Wq 30 cd_30 post) post [.iload 2, .iconst (-1), .if_icmp .ne 25, .iconst 1, .ret 1] 20 loc stk M) : Wq 30 cd_30 post 20 loc stk M := prefB_run ck_30 _ 20 (by decide +kernel) h
theorem b_30_25 (h : wpl (Wq 30 cd_30 post) post [.iload 3, .iconst 1, .iadd, .istore 4, .iconst 1, .istore 5] 25 loc stk M) : Wq 30 cd_30 post 25 loc stk M := prefB_run ck_30 _ 25 (by decide +kernel) h
theorem b_30_31 (h : wpl (Wq 30 cd_30 post) post [.iload 5, .ifCond .eq 54, .aload 0, .iload 4, .invokevirtual 3883, .iload 2, .if_icmp .ne 40, .iconst 1, .ret 1] 31 loc stk M) : Wq 30 cd_30 post 31 loc stk M := prefB_run ck_30 _ 31 (by decide +kernel) h
theorem b_30_40 (h : wpl (Wq 30 cd_30 post) post [.aload 0, .getfield 6712614916427, .iload 4, .iconst 1, .iadd, .iaload, .iconst 4, .if_icmp .ne 50, .iconst 1, .goto 51] 40 loc stk M) : Wq 30 cd_30 post 40 loc stk M := prefB_run ck_30 _ 40 (by decide +kernel) h
theorem b_30_50 (h : wpl (Wq 30 cd_30 post) post [.iconst 0, .istore 5, .iinc 4 2, .goto 31] 50 loc stk M) : Wq 30 cd_30 post 50 loc stk M := prefB_run ck_30 _ 50 (by decide +kernel) h
theorem b_30_51 (h : wpl (Wq 30 cd_30 post) post [.istore 5, .iinc 4 2, .goto 31] 51 loc stk M) : Wq 30 cd_30 post 51 loc stk M := prefB_run ck_30 _ 51 (by decide +kernel) h
theorem b_30_54 (h : wpl (Wq 30 cd_30 post) post [.iinc 3 1, .goto 7] 54 loc stk M) : Wq 30 cd_30 post 54 loc stk M := prefB_run ck_30 _ 54 (by decide +kernel) h
theorem b_30_56 (h : wpl (Wq 30 cd_30 post) post [.iconst 0, .ret 1] 56 loc stk M) : Wq 30 cd_30 post 56 loc stk M := prefB_run ck_30 _ 56 (by decide +kernel) h
end
/-! StaticKernelModel.names(II)Z -/
set_option maxRecDepth 100000 in
theorem ck_31 : chkM (mt 31) cd_31 = true := by decide +kernel
section
variable {post : Option AV → AMem → Prop} {loc : Lc} {stk : List AV} {M : AMem}
theorem b_31_0 (h : wpl (Wq 31 cd_31 post) post [.aload 0, .getfield 4488, .istore 3, .iconst 0, .istore 4, .aload 0, .iconst 0, .putfield 4592, .iconst 1, .istore 5] 0 loc stk M) : Wq 31 cd_31 post 0 loc stk M := prefB_run ck_31 _ 0 (by decide +kernel) h
theorem b_31_10 (h : wpl (Wq 31 cd_31 post) post [.iload 5, .ifCond .eq 109, .aload 0, .iconst 2, .invokevirtual 3115, .ifCond .ne 19, .aload 0, .invokevirtual 3355, .ret 1] 10 loc stk M) : Wq 31 cd_31 post 10 loc stk M := prefB_run ck_31 _ 10 (by decide +kernel) h
theorem b_31_19 (h : wpl (Wq 31 cd_31 post) post [.aload 0, .getfield 4484, .iconst 1, .if_icmp .ne 75, .iload 3, .istore 6] 19 loc stk M) : Wq 31 cd_31 post 19 loc stk M := prefB_run ck_31 _ 19 (by decide +kernel) h
theorem b_31_25 (h : wpl (Wq 31 cd_31 post) post [.iload 6, .aload 0, .getfield 4488, .if_icmp .ge 42, .aload 0, .iload 6, .aload 0, .getfield 4488, .invokevirtual 4155, .ifCond .eq 40, .aload 0, .iconst 2, .aload 0, .getfield 4488, .invokevirtual 4411, .iinc 6 2, .goto 25] 25 loc stk M) : Wq 31 cd_31 post 25 loc stk M := prefB_run ck_31 _ 25 (by decide +kernel) h
theorem b_31_40 (h : wpl (Wq 31 cd_31 post) post [.iinc 6 2, .goto 25] 40 loc stk M) : Wq 31 cd_31 post 40 loc stk M := prefB_run ck_31 _ 40 (by decide +kernel) h
theorem b_31_42 (h : wpl (Wq 31 cd_31 post) post [.aload 0, .aload 0, .getfield 4488, .invokevirtual 5419, .iload 1, .if_icmp .eq 54, .aload 0, .iconst 3, .aload 0, .getfield 4488, .invokevirtual 4411, .goto 75] 42 loc stk M) : Wq 31 cd_31 post 42 loc stk M := prefB_run ck_31 _ 42 (by decide +kernel) h
theorem b_31_54 (h : wpl (Wq 31 cd_31 post) post [.iload 2, .ifCond .le 75, .aload 0, .aload 0, .aload 0, .getfield 4488, .invokevirtual 3883, .invokevirtual 5675, .ifCond .eq 75, .iinc 4 1, .iload 2, .iconst 2, .if_icmp .eq 70, .iload 4, .iconst 1, .if_icmp .le 75, .aload 0, .iconst 5, .aload 0, .getfield 4488, .invokevirtual 4411, .aload 0, .getfield 4484, .iconst 2, .if_icmp .ne 90, .aload 0, .dup, .getfield 4592, .iconst 1, .aload 0, .aload 0, .getfield 4488, .invokevirtual 6187, .ishl, .ior, .putfield 4592, .aload 0, .dup, .getfield 4488, .iconst 1, .iadd, .putfield 4488, .aload 0, .iconst 4, .invokevirtual 3115, .istore 5, .iload 5, .ifCond .eq 10, .aload 0, .dup, .getfield 4488, .iconst 1, .iadd, .putfield 4488, .goto 10] 54 loc stk M) : Wq 31 cd_31 post 54 loc stk M := prefB_run ck_31 _ 54 (by decide +kernel) h
theorem b_31_70 (h : wpl (Wq 31 cd_31 post) post [.aload 0, .iconst 5, .aload 0, .getfield 4488, .invokevirtual 4411, .aload 0, .getfield 4484, .iconst 2, .if_icmp .ne 90, .aload 0, .dup, .getfield 4592, .iconst 1, .aload 0, .aload 0, .getfield 4488, .invokevirtual 6187, .ishl, .ior, .putfield 4592, .aload 0, .dup, .getfield 4488, .iconst 1, .iadd, .putfield 4488, .aload 0, .iconst 4, .invokevirtual 3115, .istore 5, .iload 5, .ifCond .eq 10, .aload 0, .dup, .getfield 4488, .iconst 1, .iadd, .putfield 4488, .goto 10] 70 loc stk M) : Wq 31 cd_31 post 70 loc stk M := prefB_run ck_31 _ 70 (by decide +kernel) h
theorem b_31_75 (h : wpl (Wq 31 cd_31 post) post [.aload 0, .getfield 4484, .iconst 2, .if_icmp .ne 90, .aload 0, .dup, .getfield 4592, .iconst 1, .aload 0, .aload 0, .getfield 4488, .invokevirtual 6187, .ishl, .ior, .putfield 4592, .aload 0, .dup, .getfield 4488, .iconst 1, .iadd, .putfield 4488, .aload 0, .iconst 4, .invokevirtual 3115, .istore 5, .iload 5, .ifCond .eq 10, .aload 0, .dup, .getfield 4488, .iconst 1, .iadd, .putfield 4488, .goto 10] 75 loc stk M) : Wq 31 cd_31 post 75 loc stk M := prefB_run ck_31 _ 75 (by decide +kernel) h
theorem b_31_90 (h : wpl (Wq 31 cd_31 post) post [.aload 0, .dup, .getfield 4488, .iconst 1, .iadd, .putfield 4488, .aload 0, .iconst 4, .invokevirtual 3115, .istore 5, .iload 5, .ifCond .eq 10, .aload 0, .dup, .getfield 4488, .iconst 1, .iadd, .putfield 4488, .goto 10] 90 loc stk M) : Wq 31 cd_31 post 90 loc stk M := prefB_run ck_31 _ 90 (by decide +kernel) h
theorem b_31_109 (h : wpl (Wq 31 cd_31 post) post [.iconst 1, .ret 1] 109 loc stk M) : Wq 31 cd_31 post 109 loc stk M := prefB_run ck_31 _ 109 (by decide +kernel) h
end
/-! StaticKernelModel.tellsIsr(I)Z -/
set_option maxRecDepth 100000 in
theorem ck_32 : chkM (mt 32) cd_32 = true := by decide +kernel
section
variable {post : Option AV → AMem → Prop} {loc : Lc} {stk : List AV} {M : AMem}
theorem b_32_0 (h : wpl (Wq 32 cd_32 post) post [.aload 0, .iconst 23, .invokevirtual 6699, .istore 2, .iload 2, .iconst (-1), .if_icmp .ne 9, .iconst 0, .ret 1] 0 loc stk M) : Wq 32 cd_32 post 0 loc stk M := prefB_run ck_32 _ 0 (by decide +kernel) h
theorem b_32_9 (h : wpl (Wq 32 cd_32 post) post [.aload 0, .iload 2, .iconst 1, .iconst 16, .invokevirtual 7243, .aload 0, .iconst 0, .putfield 4592, .aload 0, .iconst 24, .invokevirtual 3115, .ifCond .eq 34, .aload 0, .dup, .getfield 4488, .iconst 1, .iadd, .putfield 4488, .aload 0, .iconst 2, .iconst 2, .invokevirtual 7995, .ifCond .ne 34, .iconst 0, .ret 1] 9 loc stk M) : Wq 32 cd_32 post 9 loc stk M := prefB_run ck_32 _ 9 (by decide +kernel) h
theorem b_32_34 (h : wpl (Wq 32 cd_32 post) post [.aload 0, .getfield 4484, .iconst 2, .if_icmp .ne 54, .aload 0, .getfield 26914820559, .iload 1, .iconst 63, .aload 0, .getfield 6712617374039, .iload 2, .iaload, .iadd, .iastore, .aload 0, .getfield 26915639763, .iload 1, .aload 0, .getfield 4592, .iastore, .iconst 1, .ret 1] 34 loc stk M) : Wq 32 cd_32 post 34 loc stk M := prefB_run ck_32 _ 34 (by decide +kernel) h
theorem b_32_54 (h : wpl (Wq 32 cd_32 post) post [.iconst 1, .ret 1] 54 loc stk M) : Wq 32 cd_32 post 54 loc stk M := prefB_run ck_32 _ 54 (by decide +kernel) h
end
/-! StaticKernelModel.tellsAlarm(I)Z -/
set_option maxRecDepth 100000 in
theorem ck_33 : chkM (mt 33) cd_33 = true := by decide +kernel
section
variable {post : Option AV → AMem → Prop} {loc : Lc} {stk : List AV} {M : AMem}
theorem b_33_0 (h : wpl (Wq 33 cd_33 post) post [.aload 0, .iconst 25, .invokevirtual 6955, .ifCond .ne 6, .iconst 0, .ret 1] 0 loc stk M) : Wq 33 cd_33 post 0 loc stk M := prefB_run ck_33 _ 0 (by decide +kernel) h
theorem b_33_6 (h : wpl (Wq 33 cd_33 post) post [.aload 0, .getfield 4488, .istore 2, .aload 0, .iconst 2, .invokevirtual 6955, .ifCond .ne 15, .iconst 0, .ret 1] 6 loc stk M) : Wq 33 cd_33 post 6 loc stk M := prefB_run ck_33 _ 6 (by decide +kernel) h
theorem b_33_15 (h : wpl (Wq 33 cd_33 post) post [.aload 0, .getfield 4484, .iconst 1, .if_icmp .ne 28, .aload 0, .iload 2, .invokevirtual 5419, .iconst 3, .if_icmp .eq 28, .aload 0, .iconst 3, .iload 2, .invokevirtual 4411, .aload 0, .getfield 6712614916427, .aload 0, .getfield 4488, .iaload, .istore 3, .iload 3, .iconst 26, .if_icmp .eq 46, .iload 3, .iconst 27, .if_icmp .eq 46, .iload 3, .iconst 28, .if_icmp .eq 46, .aload 0, .invokevirtual 3355, .ret 1] 15 loc stk M) : Wq 33 cd_33 post 15 loc stk M := prefB_run ck_33 _ 15 (by decide +kernel) h
theorem b_33_28 (h : wpl (Wq 33 cd_33 post) post [.aload 0, .getfield 6712614916427, .aload 0, .getfield 4488, .iaload, .istore 3, .iload 3, .iconst 26, .if_icmp .eq 46, .iload 3, .iconst 27, .if_icmp .eq 46, .iload 3, .iconst 28, .if_icmp .eq 46, .aload 0, .invokevirtual 3355, .ret 1] 28 loc stk M) : Wq 33 cd_33 post 28 loc stk M := prefB_run ck_33 _ 28 (by decide +kernel) h
theorem b_33_46 (h : wpl (Wq 33 cd_33 post) post [.aload 0, .dup, .getfield 4488, .iconst 1, .iadd, .putfield 4488, .aload 0, .getfield 4488, .istore 4, .iload 3, .iconst 28, .if_icmp .eq 64, .aload 0, .iconst 2, .invokevirtual 6955, .ifCond .ne 64, .iconst 0, .ret 1] 46 loc stk M) : Wq 33 cd_33 post 46 loc stk M := prefB_run ck_33 _ 46 (by decide +kernel) h
theorem b_33_64 (h : wpl (Wq 33 cd_33 post) post [.aload 0, .getfield 4488, .istore 5, .iload 3, .iconst 27, .if_icmp .ne 76, .aload 0, .iconst 2, .invokevirtual 6955, .ifCond .ne 76, .iconst 0, .ret 1] 64 loc stk M) : Wq 33 cd_33 post 64 loc stk M := prefB_run ck_33 _ 64 (by decide +kernel) h
theorem b_33_76 (h : wpl (Wq 33 cd_33 post) post [.aload 0, .getfield 4484, .iconst 1, .if_icmp .ne 126, .iload 3, .iconst 28, .if_icmp .eq 126, .aload 0, .iload 4, .invokevirtual 5419, .iconst 4, .if_icmp .eq 92, .aload 0, .iconst 3, .iload 4, .invokevirtual 4411, .iload 3, .iconst 27, .if_icmp .ne 105, .aload 0, .iload 5, .invokevirtual 5419, .iconst 1, .if_icmp .eq 105, .aload 0, .iconst 3, .iload 5, .invokevirtual 4411, .goto 126] 76 loc stk M) : Wq 33 cd_33 post 76 loc stk M := prefB_run ck_33 _ 76 (by decide +kernel) h
theorem b_33_92 (h : wpl (Wq 33 cd_33 post) post [.iload 3, .iconst 27, .if_icmp .ne 105, .aload 0, .iload 5, .invokevirtual 5419, .iconst 1, .if_icmp .eq 105, .aload 0, .iconst 3, .iload 5, .invokevirtual 4411, .goto 126] 92 loc stk M) : Wq 33 cd_33 post 92 loc stk M := prefB_run ck_33 _ 92 (by decide +kernel) h
theorem b_33_105 (h : wpl (Wq 33 cd_33 post) post [.iload 3, .iconst 27, .if_icmp .ne 126, .aload 0, .iload 4, .invokevirtual 5419, .iconst 4, .if_icmp .ne 126, .aload 0, .aload 0, .iload 4, .invokevirtual 3883, .aload 0, .iload 5, .invokevirtual 3883, .invokevirtual 7739, .ifCond .ne 126, .aload 0, .iconst 5, .iload 5, .invokevirtual 4411, .aload 0, .getfield 4484, .iconst 2, .if_icmp .ne 178, .aload 0, .getfield 80603550167, .iload 1, .aload 0, .iload 2, .invokevirtual 6187, .iastore, .aload 0, .getfield 80604369371, .iload 1, .iload 3, .iconst 26, .isub, .iastore, .aload 0, .getfield 80605188575, .iload 1, .iload 3, .iconst 28, .if_icmp .ne 152, .iconst (-1), .goto 155] 105 loc stk M) : Wq 33 cd_33 post 105 loc stk M := prefB_run ck_33 _ 105 (by decide +kernel) h
theorem b_33_126 (h : wpl (Wq 33 cd_33 post) post [.aload 0, .getfield 4484, .iconst 2, .if_icmp .ne 178, .aload 0, .getfield 80603550167, .iload 1, .aload 0, .iload 2, .invokevirtual 6187, .iastore, .aload 0, .getfield 80604369371, .iload 1, .iload 3, .iconst 26, .isub, .iastore, .aload 0, .getfield 80605188575, .iload 1, .iload 3, .iconst 28, .if_icmp .ne 152, .iconst (-1), .goto 155] 126 loc stk M) : Wq 33 cd_33 post 126 loc stk M := prefB_run ck_33 _ 126 (by decide +kernel) h
theorem b_33_152 (h : wpl (Wq 33 cd_33 post) post [.aload 0, .iload 4, .invokevirtual 6187, .iastore, .aload 0, .getfield 80606007779, .iload 1, .iload 3, .iconst 27, .if_icmp .ne 166, .aload 0, .iload 5, .invokevirtual 6187, .goto 167] 152 loc stk M) : Wq 33 cd_33 post 152 loc stk M := prefB_run ck_33 _ 152 (by decide +kernel) h
theorem b_33_155 (h : wpl (Wq 33 cd_33 post) post [.iastore, .aload 0, .getfield 80606007779, .iload 1, .iload 3, .iconst 27, .if_icmp .ne 166, .aload 0, .iload 5, .invokevirtual 6187, .goto 167] 155 loc stk M) : Wq 33 cd_33 post 155 loc stk M := prefB_run ck_33 _ 155 (by decide +kernel) h
theorem b_33_166 (h : wpl (Wq 33 cd_33 post) post [.iconst (-1), .iastore, .aload 0, .getfield 80606826983, .iload 1, .iconst 0, .iastore, .aload 0, .getfield 80608465391, .iload 1, .iconst 0, .iastore, .aload 0, .iconst 29, .invokevirtual 3115, .ifCond .eq 187, .aload 0, .iload 1, .iload 2, .invokevirtual 8763, .ifCond .eq 189, .iconst 1, .goto 190] 166 loc stk M) : Wq 33 cd_33 post 166 loc stk M := prefB_run ck_33 _ 166 (by decide +kernel) h
theorem b_33_167 (h : wpl (Wq 33 cd_33 post) post [.iastore, .aload 0, .getfield 80606826983, .iload 1, .iconst 0, .iastore, .aload 0, .getfield 80608465391, .iload 1, .iconst 0, .iastore, .aload 0, .iconst 29, .invokevirtual 3115, .ifCond .eq 187, .aload 0, .iload 1, .iload 2, .invokevirtual 8763, .ifCond .eq 189, .iconst 1, .goto 190] 167 loc stk M) : Wq 33 cd_33 post 167 loc stk M := prefB_run ck_33 _ 167 (by decide +kernel) h
theorem b_33_178 (h : wpl (Wq 33 cd_33 post) post [.aload 0, .iconst 29, .invokevirtual 3115, .ifCond .eq 187, .aload 0, .iload 1, .iload 2, .invokevirtual 8763, .ifCond .eq 189, .iconst 1, .goto 190] 178 loc stk M) : Wq 33 cd_33 post 178 loc stk M := prefB_run ck_33 _ 178 (by decide +kernel) h
theorem b_33_187 (h : wpl (Wq 33 cd_33 post) post [.iconst 1, .goto 190] 187 loc stk M) : Wq 33 cd_33 post 187 loc stk M := prefB_run ck_33 _ 187 (by decide +kernel) h
theorem b_33_189 (h : wpl (Wq 33 cd_33 post) post [.iconst 0, .ret 1] 189 loc stk M) : Wq 33 cd_33 post 189 loc stk M := prefB_run ck_33 _ 189 (by decide +kernel) h
theorem b_33_190 (h : wpl (Wq 33 cd_33 post) post [.ret 1] 190 loc stk M) : Wq 33 cd_33 post 190 loc stk M := prefB_run ck_33 _ 190 (by decide +kernel) h
end
/-! StaticKernelModel.auto(II)Z -/
set_option maxRecDepth 100000 in
theorem ck_34 : chkM (mt 34) cd_34 = true := by decide +kernel
section
variable {post : Option AV → AMem → Prop} {loc : Lc} {stk : List AV} {M : AMem}
theorem b_34_0 (h : wpl (Wq 34 cd_34 post) post [.aload 0, .dup, .getfield 4488, .iconst 1, .iadd, .putfield 4488, .aload 0, .iconst 0, .iconst 0, .invokevirtual 7995, .ifCond .ne 13, .iconst 0, .ret 1] 0 loc stk M) : Wq 34 cd_34 post 0 loc stk M := prefB_run ck_34 _ 0 (by decide +kernel) h
theorem b_34_13 (h : wpl (Wq 34 cd_34 post) post [.aload 0, .iconst 30, .invokevirtual 6699, .istore 3, .iload 3, .iconst (-1), .if_icmp .ne 22, .iconst 0, .ret 1] 13 loc stk M) : Wq 34 cd_34 post 13 loc stk M := prefB_run ck_34 _ 13 (by decide +kernel) h
theorem b_34_22 (h : wpl (Wq 34 cd_34 post) post [.iconst (-1), .istore 4, .aload 0, .iconst 31, .invokevirtual 3115, .ifCond .eq 37, .aload 0, .iconst 31, .invokevirtual 6699, .istore 4, .iload 4, .iconst (-1), .if_icmp .ne 37, .iconst 0, .ret 1] 22 loc stk M) : Wq 34 cd_34 post 22 loc stk M := prefB_run ck_34 _ 22 (by decide +kernel) h
theorem b_34_37 (h : wpl (Wq 34 cd_34 post) post [.aload 0, .getfield 4484, .iconst 1, .if_icmp .ne 83, .aload 0, .iload 2, .invokevirtual 5419, .iconst 3, .if_icmp .ne 83, .aload 0, .getfield 1174460010867, .aload 0, .iload 2, .invokevirtual 3883, .iaload, .istore 5, .aload 0, .getfield 6712617374039, .iload 5, .iconst 2, .iadd, .iaload, .istore 6, .aload 0, .iload 3, .iconst 1, .iload 6, .invokevirtual 7243, .iload 4, .iconst (-1), .if_icmp .eq 83, .aload 0, .getfield 6712617374039, .iload 4, .iaload, .ifCond .eq 83, .aload 0, .iload 4, .aload 0, .getfield 6712617374039, .iload 5, .iconst 6, .iadd, .iaload, .iload 6, .invokevirtual 7243, .aload 0, .getfield 4484, .iconst 2, .if_icmp .ne 114, .aload 0, .getfield 80606826983, .iload 1, .aload 0, .getfield 4592, .iastore, .aload 0, .getfield 80607646187, .iload 1, .aload 0, .getfield 6712617374039, .iload 3, .iaload, .iastore, .aload 0, .getfield 80608465391, .iload 1, .iload 4, .iconst (-1), .if_icmp .ne 109, .iconst 0, .goto 113] 37 loc stk M) : Wq 34 cd_34 post 37 loc stk M := prefB_run ck_34 _ 37 (by decide +kernel) h
theorem b_34_83 (h : wpl (Wq 34 cd_34 post) post [.aload 0, .getfield 4484, .iconst 2, .if_icmp .ne 114, .aload 0, .getfield 80606826983, .iload 1, .aload 0, .getfield 4592, .iastore, .aload 0, .getfield 80607646187, .iload 1, .aload 0, .getfield 6712617374039, .iload 3, .iaload, .iastore, .aload 0, .getfield 80608465391, .iload 1, .iload 4, .iconst (-1), .if_icmp .ne 109, .iconst 0, .goto 113] 83 loc stk M) : Wq 34 cd_34 post 83 loc stk M := prefB_run ck_34 _ 83 (by decide +kernel) h
theorem b_34_109 (h : wpl (Wq 34 cd_34 post) post [.aload 0, .getfield 6712617374039, .iload 4, .iaload, .iastore, .iconst 1, .ret 1] 109 loc stk M) : Wq 34 cd_34 post 109 loc stk M := prefB_run ck_34 _ 109 (by decide +kernel) h
theorem b_34_113 (h : wpl (Wq 34 cd_34 post) post [.iastore, .iconst 1, .ret 1] 113 loc stk M) : Wq 34 cd_34 post 113 loc stk M := prefB_run ck_34 _ 113 (by decide +kernel) h
theorem b_34_114 (h : wpl (Wq 34 cd_34 post) post [.iconst 1, .ret 1] 114 loc stk M) : Wq 34 cd_34 post 114 loc stk M := prefB_run ck_34 _ 114 (by decide +kernel) h
end
/-! StaticKernelModel.groups()V -/
set_option maxRecDepth 100000 in
theorem ck_35 : chkM (mt 35) cd_35 = true := by decide +kernel
section
variable {post : Option AV → AMem → Prop} {loc : Lc} {stk : List AV} {M : AMem}
theorem b_35_0 (h : wpl (Wq 35 cd_35 post) post [.aload 0, .getfield 751679902107, .iconst 128, .iconst 0, .iastore, .aload 0, .getfield 53749354915, .iconst 0, .iconst 0, .iastore, .aload 0, .getfield 53958250911, .iconst 0, .iconst 0, .bastore, .aload 0, .getfield 53765738999, .astore 1, .iconst 1, .istore 2] 0 loc stk M) : Wq 35 cd_35 post 0 loc stk M := prefB_run ck_35 _ 0 (by decide +kernel) h
theorem b_35_20 (h : wpl (Wq 35 cd_35 post) post [.iload 2, .aload 0, .getfield 11803038099, .iconst 2, .iaload, .if_icmp .ge 40, .aload 1, .iload 2, .aload 0, .getfield 53749354915, .iload 2, .iaload, .iastore, .aload 0, .getfield 53749354915, .iload 2, .iload 2, .iastore, .iinc 2 1, .goto 20] 20 loc stk M) : Wq 35 cd_35 post 20 loc stk M := prefB_run ck_35 _ 20 (by decide +kernel) h
theorem b_35_40 (h : wpl (Wq 35 cd_35 post) post [.iconst 0, .istore 2] 40 loc stk M) : Wq 35 cd_35 post 40 loc stk M := prefB_run ck_35 _ 40 (by decide +kernel) h
theorem b_35_42 (h : wpl (Wq 35 cd_35 post) post [.iload 2, .iconst 32, .if_icmp .ge 86, .iconst 1, .istore 3] 42 loc stk M) : Wq 35 cd_35 post 42 loc stk M := prefB_run ck_35 _ 42 (by decide +kernel) h
theorem b_35_47 (h : wpl (Wq 35 cd_35 post) post [.iload 3, .aload 0, .getfield 11803038099, .iconst 2, .iaload, .if_icmp .ge 84, .aload 1, .iload 3, .iaload, .iconst (-1), .if_icmp .eq 82, .aload 0, .getfield 53749354915, .iload 3, .iaload, .aload 0, .getfield 53749354915, .aload 1, .iload 3, .iaload, .iaload, .invokestatic 288, .istore 4, .aload 0, .getfield 53749354915, .iload 3, .iload 4, .iastore, .aload 0, .getfield 53749354915, .aload 1, .iload 3, .iaload, .iload 4, .iastore, .iinc 3 1, .goto 47] 47 loc stk M) : Wq 35 cd_35 post 47 loc stk M := prefB_run ck_35 _ 47 (by decide +kernel) h
theorem b_35_82 (h : wpl (Wq 35 cd_35 post) post [.iinc 3 1, .goto 47] 82 loc stk M) : Wq 35 cd_35 post 82 loc stk M := prefB_run ck_35 _ 82 (by decide +kernel) h
theorem b_35_84 (h : wpl (Wq 35 cd_35 post) post [.iinc 2 1, .goto 42] 84 loc stk M) : Wq 35 cd_35 post 84 loc stk M := prefB_run ck_35 _ 84 (by decide +kernel) h
theorem b_35_86 (h : wpl (Wq 35 cd_35 post) post [.iconst 0, .istore 2] 86 loc stk M) : Wq 35 cd_35 post 86 loc stk M := prefB_run ck_35 _ 86 (by decide +kernel) h
theorem b_35_88 (h : wpl (Wq 35 cd_35 post) post [.iload 2, .aload 0, .getfield 11803038099, .iconst 2, .iaload, .if_icmp .ge 173, .aload 0, .getfield 53750174119, .iload 2, .iconst (-1), .iastore, .iconst 0, .istore 3] 88 loc stk M) : Wq 35 cd_35 post 88 loc stk M := prefB_run ck_35 _ 88 (by decide +kernel) h
theorem b_35_101 (h : wpl (Wq 35 cd_35 post) post [.iload 3, .aload 0, .getfield 11803038099, .iconst 4, .iaload, .if_icmp .ge 135, .iload 2, .ifCond .eq 120, .aload 0, .aload 0, .getfield 80601092555, .iload 3, .iaload, .aload 0, .getfield 53749354915, .iload 2, .iaload, .invokevirtual 9275, .ifCond .eq 133, .aload 0, .getfield 53750174119, .iload 2, .aload 0, .getfield 53750174119, .iload 2, .iaload, .aload 0, .getfield 80596996535, .iload 3, .iaload, .invokestatic 32, .iastore, .iinc 3 1, .goto 101] 101 loc stk M) : Wq 35 cd_35 post 101 loc stk M := prefB_run ck_35 _ 101 (by decide +kernel) h
theorem b_35_120 (h : wpl (Wq 35 cd_35 post) post [.aload 0, .getfield 53750174119, .iload 2, .aload 0, .getfield 53750174119, .iload 2, .iaload, .aload 0, .getfield 80596996535, .iload 3, .iaload, .invokestatic 32, .iastore, .iinc 3 1, .goto 101] 120 loc stk M) : Wq 35 cd_35 post 120 loc stk M := prefB_run ck_35 _ 120 (by decide +kernel) h
theorem b_35_133 (h : wpl (Wq 35 cd_35 post) post [.iinc 3 1, .goto 101] 133 loc stk M) : Wq 35 cd_35 post 133 loc stk M := prefB_run ck_35 _ 133 (by decide +kernel) h
theorem b_35_135 (h : wpl (Wq 35 cd_35 post) post [.iconst 0, .istore 3] 135 loc stk M) : Wq 35 cd_35 post 135 loc stk M := prefB_run ck_35 _ 135 (by decide +kernel) h
theorem b_35_137 (h : wpl (Wq 35 cd_35 post) post [.iload 3, .aload 0, .getfield 11803038099, .iconst 5, .iaload, .if_icmp .ge 171, .iload 2, .ifCond .le 169, .aload 0, .aload 0, .getfield 26915639763, .iload 3, .iaload, .aload 0, .getfield 53749354915, .iload 2, .iaload, .invokevirtual 9275, .ifCond .eq 169, .aload 0, .getfield 53750174119, .iload 2, .aload 0, .getfield 53750174119, .iload 2, .iaload, .aload 0, .getfield 26914820559, .iload 3, .iaload, .invokestatic 32, .iastore, .iinc 3 1, .goto 137] 137 loc stk M) : Wq 35 cd_35 post 137 loc stk M := prefB_run ck_35 _ 137 (by decide +kernel) h
theorem b_35_169 (h : wpl (Wq 35 cd_35 post) post [.iinc 3 1, .goto 137] 169 loc stk M) : Wq 35 cd_35 post 169 loc stk M := prefB_run ck_35 _ 169 (by decide +kernel) h
theorem b_35_171 (h : wpl (Wq 35 cd_35 post) post [.iinc 2 1, .goto 88] 171 loc stk M) : Wq 35 cd_35 post 171 loc stk M := prefB_run ck_35 _ 171 (by decide +kernel) h
theorem b_35_173 (h : wpl (Wq 35 cd_35 post) post [.return_] 173 loc stk M) : Wq 35 cd_35 post 173 loc stk M := prefB_run ck_35 _ 173 (by decide +kernel) h
end
/-! StaticKernelModel.usesOf(II)Z -/
set_option maxRecDepth 100000 in
theorem ck_36 : chkM (mt 36) cd_36 = true := by decide +kernel
section
variable {post : Option AV → AMem → Prop} {loc : Lc} {stk : List AV} {M : AMem}
theorem b_36_0 (h : wpl (Wq 36 cd_36 post) post [.iconst 1, .istore 3] 0 loc stk M) : Wq 36 cd_36 post 0 loc stk M := prefB_run ck_36 _ 0 (by decide +kernel) h
theorem b_36_2 (h : wpl (Wq 36 cd_36 post) post [.iload 3, .aload 0, .getfield 11803038099, .iconst 2, .iaload, .if_icmp .ge 25, .iload 1, .iload 3, .ishr, .iconst 1, .iand, .iconst 1, .if_icmp .ne 23, .aload 0, .getfield 53749354915, .iload 3, .iaload, .iload 2, .if_icmp .ne 23, .iconst 1, .ret 1] 2 loc stk M) : Wq 36 cd_36 post 2 loc stk M := prefB_run ck_36 _ 2 (by decide +kernel) h
theorem b_36_23 (h : wpl (Wq 36 cd_36 post) post [.iinc 3 1, .goto 2] 23 loc stk M) : Wq 36 cd_36 post 23 loc stk M := prefB_run ck_36 _ 23 (by decide +kernel) h
theorem b_36_25 (h : wpl (Wq 36 cd_36 post) post [.iconst 0, .ret 1] 25 loc stk M) : Wq 36 cd_36 post 25 loc stk M := prefB_run ck_36 _ 25 (by decide +kernel) h
end
/-! StaticKernelModel.goesOff()V -/
set_option maxRecDepth 100000 in
theorem ck_37 : chkM (mt 37) cd_37 = true := by decide +kernel
section
variable {post : Option AV → AMem → Prop} {loc : Lc} {stk : List AV} {M : AMem}
theorem b_37_0 (h : wpl (Wq 37 cd_37 post) post [.aload 0, .iconst 0, .putfield 4601, .aload 0, .iconst (-1), .putfield 4604, .aload 0, .iconst 0, .putfield 4608, .aload 0, .iconst 0, .putfield 4660, .iconst 0, .istore 1] 0 loc stk M) : Wq 37 cd_37 post 0 loc stk M := prefB_run ck_37 _ 0 (by decide +kernel) h
theorem b_37_14 (h : wpl (Wq 37 cd_37 post) post [.iload 1, .iconst 400, .if_icmp .ge 29, .aload 0, .getfield 671168926219, .iload 1, .iconst 0, .iastore, .aload 0, .getfield 671384375851, .iload 1, .iconst 0, .bastore, .iinc 1 1, .goto 14] 14 loc stk M) : Wq 37 cd_37 post 14 loc stk M := prefB_run ck_37 _ 14 (by decide +kernel) h
theorem b_37_29 (h : wpl (Wq 37 cd_37 post) post [.iconst 0, .istore 1] 29 loc stk M) : Wq 37 cd_37 post 29 loc stk M := prefB_run ck_37 _ 29 (by decide +kernel) h
theorem b_37_31 (h : wpl (Wq 37 cd_37 post) post [.iload 1, .iconst 48, .if_icmp .ge 46, .aload 0, .getfield 80614199839, .iload 1, .iconst 0, .iastore, .aload 0, .getfield 80831287879, .iload 1, .iconst 0, .bastore, .iinc 1 1, .goto 31] 31 loc stk M) : Wq 37 cd_37 post 31 loc stk M := prefB_run ck_37 _ 31 (by decide +kernel) h
theorem b_37_46 (h : wpl (Wq 37 cd_37 post) post [.iconst 0, .istore 1] 46 loc stk M) : Wq 37 cd_37 post 46 loc stk M := prefB_run ck_37 _ 46 (by decide +kernel) h
theorem b_37_48 (h : wpl (Wq 37 cd_37 post) post [.iload 1, .iconst 32, .if_icmp .ge 58, .aload 0, .getfield 53771473443, .iload 1, .iconst 0, .iastore, .iinc 1 1, .goto 48] 48 loc stk M) : Wq 37 cd_37 post 48 loc stk M := prefB_run ck_37 _ 48 (by decide +kernel) h
theorem b_37_58 (h : wpl (Wq 37 cd_37 post) post [.iconst 0, .istore 1] 58 loc stk M) : Wq 37 cd_37 post 58 loc stk M := prefB_run ck_37 _ 58 (by decide +kernel) h
theorem b_37_60 (h : wpl (Wq 37 cd_37 post) post [.iload 1, .iconst 16, .if_icmp .ge 80, .aload 0, .getfield 27140100655, .iload 1, .iconst 0, .bastore, .aload 0, .getfield 26931204659, .iload 1, .iconst (-1), .iastore, .aload 0, .getfield 26933662275, .iload 1, .iconst 0, .iastore, .iinc 1 1, .goto 60] 60 loc stk M) : Wq 37 cd_37 post 60 loc stk M := prefB_run ck_37 _ 60 (by decide +kernel) h
theorem b_37_80 (h : wpl (Wq 37 cd_37 post) post [.return_] 80 loc stk M) : Wq 37 cd_37 post 80 loc stk M := prefB_run ck_37 _ 80 (by decide +kernel) h
end
/-! StaticKernelModel.fault(I)I -/
set_option maxRecDepth 100000 in
theorem ck_38 : chkM (mt 38) cd_38 = true := by decide +kernel
section
variable {post : Option AV → AMem → Prop} {loc : Lc} {stk : List AV} {M : AMem}
theorem b_38_0 (h : wpl (Wq 38 cd_38 post) post [.aload 0, .iconst 0, .putfield 4400, .iload 1, .ifCond .ne 8, .aload 0, .getfield 4452, .goto 15] 0 loc stk M) : Wq 38 cd_38 post 0 loc stk M := prefB_run ck_38 _ 0 (by decide +kernel) h
theorem b_38_8 (h : wpl (Wq 38 cd_38 post) post [.iload 1, .iconst 1, .if_icmp .ne 14, .aload 0, .getfield 4456, .goto 15] 8 loc stk M) : Wq 38 cd_38 post 8 loc stk M := prefB_run ck_38 _ 8 (by decide +kernel) h
theorem b_38_14 (h : wpl (Wq 38 cd_38 post) post [.iconst (-1), .ret 0] 14 loc stk M) : Wq 38 cd_38 post 14 loc stk M := prefB_run ck_38 _ 14 (by decide +kernel) h
theorem b_38_15 (h : wpl (Wq 38 cd_38 post) post [.ret 0] 15 loc stk M) : Wq 38 cd_38 post 15 loc stk M := prefB_run ck_38 _ 15 (by decide +kernel) h
end
/-! StaticKernelModel.many(I)I -/
set_option maxRecDepth 100000 in
theorem ck_39 : chkM (mt 39) cd_39 = true := by decide +kernel
section
variable {post : Option AV → AMem → Prop} {loc : Lc} {stk : List AV} {M : AMem}
theorem b_39_0 (h : wpl (Wq 39 cd_39 post) post [.aload 0, .iconst 0, .putfield 4400, .iload 1, .ifCond .lt 8, .iload 1, .iconst 6, .if_icmp .le 10, .iconst (-1), .goto 13] 0 loc stk M) : Wq 39 cd_39 post 0 loc stk M := prefB_run ck_39 _ 0 (by decide +kernel) h
theorem b_39_8 (h : wpl (Wq 39 cd_39 post) post [.iconst (-1), .goto 13] 8 loc stk M) : Wq 39 cd_39 post 8 loc stk M := prefB_run ck_39 _ 8 (by decide +kernel) h
theorem b_39_10 (h : wpl (Wq 39 cd_39 post) post [.aload 0, .iload 1, .invokevirtual 10283, .ret 0] 10 loc stk M) : Wq 39 cd_39 post 10 loc stk M := prefB_run ck_39 _ 10 (by decide +kernel) h
theorem b_39_13 (h : wpl (Wq 39 cd_39 post) post [.ret 0] 13 loc stk M) : Wq 39 cd_39 post 13 loc stk M := prefB_run ck_39 _ 13 (by decide +kernel) h
end
/-! StaticKernelModel.manyOf(I)I -/
set_option maxRecDepth 100000 in
theorem ck_40 : chkM (mt 40) cd_40 = true := by decide +kernel
section
variable {post : Option AV → AMem → Prop} {loc : Lc} {stk : List AV} {M : AMem}
theorem b_40_0 (h : wpl (Wq 40 cd_40 post) post [.iload 1, .iconst 2, .if_icmp .ne 10, .iconst 1, .aload 0, .getfield 11803038099, .iload 1, .iaload, .invokestatic 32, .goto 14] 0 loc stk M) : Wq 40 cd_40 post 0 loc stk M := prefB_run ck_40 _ 0 (by decide +kernel) h
theorem b_40_10 (h : wpl (Wq 40 cd_40 post) post [.aload 0, .getfield 11803038099, .iload 1, .iaload, .ret 0] 10 loc stk M) : Wq 40 cd_40 post 10 loc stk M := prefB_run ck_40 _ 10 (by decide +kernel) h
theorem b_40_14 (h : wpl (Wq 40 cd_40 post) post [.ret 0] 14 loc stk M) : Wq 40 cd_40 post 14 loc stk M := prefB_run ck_40 _ 14 (by decide +kernel) h
end
/-! StaticKernelModel.name(III)J -/
set_option maxRecDepth 100000 in
theorem ck_41 : chkM (mt 41) cd_41 = true := by decide +kernel
section
variable {post : Option AV → AMem → Prop} {loc : Lc} {stk : List AV} {M : AMem}
theorem b_41_0 (h : wpl (Wq 41 cd_41 post) post [.aload 0, .iconst 0, .putfield 4400, .aload 0, .iload 1, .iload 2, .invokevirtual 10811, .ifCond .eq 10, .iload 3, .ifCond .ge 15, .aload 0, .invokevirtual 11035, .istore 4, .ldc2_w 0, .lreturn] 0 loc stk M) : Wq 41 cd_41 post 0 loc stk M := prefB_run ck_41 _ 0 (by decide +kernel) h
theorem b_41_10 (h : wpl (Wq 41 cd_41 post) post [.aload 0, .invokevirtual 11035, .istore 4, .ldc2_w 0, .lreturn] 10 loc stk M) : Wq 41 cd_41 post 10 loc stk M := prefB_run ck_41 _ 10 (by decide +kernel) h
theorem b_41_15 (h : wpl (Wq 41 cd_41 post) post [.ldc2_w 0, .lstore 4, .iconst 0, .istore 6] 15 loc stk M) : Wq 41 cd_41 post 15 loc stk M := prefB_run ck_41 _ 15 (by decide +kernel) h
theorem b_41_19 (h : wpl (Wq 41 cd_41 post) post [.iload 6, .iconst 8, .if_icmp .ge 68, .iload 3, .i2l, .iload 6, .i2l, .ladd, .lstore 7, .lload 7, .aload 0, .getfield 751679902107, .iconst 64, .iload 1, .imul, .iload 2, .iadd, .iaload, .i2l, .lcmp, .ifCond .ge 57, .aload 0, .getfield 6711783428495, .aload 0, .getfield 751679082903, .iconst 64, .iload 1, .imul, .iload 2, .iadd, .iaload, .lload 7, .l2i, .iadd, .baload, .iconst 255, .iand, .goto 58] 19 loc stk M) : Wq 41 cd_41 post 19 loc stk M := prefB_run ck_41 _ 19 (by decide +kernel) h
theorem b_41_57 (h : wpl (Wq 41 cd_41 post) post [.iconst 0, .istore 9, .lload 4, .iconst 8, .lshl, .iload 9, .i2l, .lor, .lstore 4, .iinc 6 1, .goto 19] 57 loc stk M) : Wq 41 cd_41 post 57 loc stk M := prefB_run ck_41 _ 57 (by decide +kernel) h
theorem b_41_58 (h : wpl (Wq 41 cd_41 post) post [.istore 9, .lload 4, .iconst 8, .lshl, .iload 9, .i2l, .lor, .lstore 4, .iinc 6 1, .goto 19] 58 loc stk M) : Wq 41 cd_41 post 58 loc stk M := prefB_run ck_41 _ 58 (by decide +kernel) h
theorem b_41_68 (h : wpl (Wq 41 cd_41 post) post [.lload 4, .lreturn] 68 loc stk M) : Wq 41 cd_41 post 68 loc stk M := prefB_run ck_41 _ 68 (by decide +kernel) h
end
/-! StaticKernelModel.isThing(II)Z -/
set_option maxRecDepth 100000 in
theorem ck_42 : chkM (mt 42) cd_42 = true := by decide +kernel
section
variable {post : Option AV → AMem → Prop} {loc : Lc} {stk : List AV} {M : AMem}
theorem b_42_0 (h : wpl (Wq 42 cd_42 post) post [.iload 1, .ifCond .lt 14, .iload 1, .iconst 6, .if_icmp .gt 14, .iload 2, .ifCond .lt 14, .iload 2, .aload 0, .iload 1, .invokevirtual 10283, .if_icmp .ge 14, .iconst 1, .goto 15] 0 loc stk M) : Wq 42 cd_42 post 0 loc stk M := prefB_run ck_42 _ 0 (by decide +kernel) h
theorem b_42_14 (h : wpl (Wq 42 cd_42 post) post [.iconst 0, .ret 1] 14 loc stk M) : Wq 42 cd_42 post 14 loc stk M := prefB_run ck_42 _ 14 (by decide +kernel) h
theorem b_42_15 (h : wpl (Wq 42 cd_42 post) post [.ret 1] 15 loc stk M) : Wq 42 cd_42 post 15 loc stk M := prefB_run ck_42 _ 15 (by decide +kernel) h
end
/-! StaticKernelModel.throwing()Z -/
set_option maxRecDepth 100000 in
theorem ck_43 : chkM (mt 43) cd_43 = true := by decide +kernel
section
variable {post : Option AV → AMem → Prop} {loc : Lc} {stk : List AV} {M : AMem}
theorem b_43_0 (h : wpl (Wq 43 cd_43 post) post [.aload 0, .iconst 1, .putfield 4400, .iconst 1, .ret 1] 0 loc stk M) : Wq 43 cd_43 post 0 loc stk M := prefB_run ck_43 _ 0 (by decide +kernel) h
end
/-! StaticKernelModel.activate(I)I -/
set_option maxRecDepth 100000 in
theorem ck_44 : chkM (mt 44) cd_44 = true := by decide +kernel
section
variable {post : Option AV → AMem → Prop} {loc : Lc} {stk : List AV} {M : AMem}
theorem b_44_0 (h : wpl (Wq 44 cd_44 post) post [.aload 0, .iconst 0, .putfield 4400, .aload 0, .iconst 1, .iconst 0, .invokevirtual 11579, .istore 2, .iload 2, .ifCond .ne 20, .aload 0, .iload 1, .invokevirtual 13099, .ifCond .ne 20, .aload 0, .iconst 1, .iconst 3, .invokevirtual 12603, .istore 2, .goto 41] 0 loc stk M) : Wq 44 cd_44 post 0 loc stk M := prefB_run ck_44 _ 0 (by decide +kernel) h
theorem b_44_20 (h : wpl (Wq 44 cd_44 post) post [.iload 2, .ifCond .ne 36, .aload 0, .iload 1, .invokevirtual 13355, .aload 0, .getfield 80598634943, .iload 1, .iaload, .if_icmp .ne 36, .aload 0, .iconst 1, .iconst 4, .invokevirtual 12603, .istore 2, .goto 41] 20 loc stk M) : Wq 44 cd_44 post 20 loc stk M := prefB_run ck_44 _ 20 (by decide +kernel) h
theorem b_44_36 (h : wpl (Wq 44 cd_44 post) post [.iload 2, .ifCond .ne 41, .aload 0, .iload 1, .invokevirtual 13611, .aload 0, .iload 2, .invokevirtual 14123, .ret 0] 36 loc stk M) : Wq 44 cd_44 post 36 loc stk M := prefB_run ck_44 _ 36 (by decide +kernel) h
theorem b_44_41 (h : wpl (Wq 44 cd_44 post) post [.aload 0, .iload 2, .invokevirtual 14123, .ret 0] 41 loc stk M) : Wq 44 cd_44 post 41 loc stk M := prefB_run ck_44 _ 41 (by decide +kernel) h
end
/-! StaticKernelModel.asked(IZ)I -/
set_option maxRecDepth 100000 in
theorem ck_45 : chkM (mt 45) cd_45 = true := by decide +kernel
section
variable {post : Option AV → AMem → Prop} {loc : Lc} {stk : List AV} {M : AMem}
theorem b_45_0 (h : wpl (Wq 45 cd_45 post) post [.aload 0, .getfield 4601, .ifCond .eq 6, .aload 0, .invokevirtual 11803, .ifCond .ne 8, .iconst 10, .ret 0] 0 loc stk M) : Wq 45 cd_45 post 0 loc stk M := prefB_run ck_45 _ 0 (by decide +kernel) h
theorem b_45_6 (h : wpl (Wq 45 cd_45 post) post [.iconst 10, .ret 0] 6 loc stk M) : Wq 45 cd_45 post 6 loc stk M := prefB_run ck_45 _ 6 (by decide +kernel) h
theorem b_45_8 (h : wpl (Wq 45 cd_45 post) post [.iload 2, .ifCond .ne 18, .aload 0, .getfield 4608, .ifCond .le 18, .aload 0, .iload 1, .iconst 9, .invokevirtual 12603, .goto 19] 8 loc stk M) : Wq 45 cd_45 post 8 loc stk M := prefB_run ck_45 _ 8 (by decide +kernel) h
theorem b_45_18 (h : wpl (Wq 45 cd_45 post) post [.iconst 0, .ret 0] 18 loc stk M) : Wq 45 cd_45 post 18 loc stk M := prefB_run ck_45 _ 18 (by decide +kernel) h
theorem b_45_19 (h : wpl (Wq 45 cd_45 post) post [.ret 0] 19 loc stk M) : Wq 45 cd_45 post 19 loc stk M := prefB_run ck_45 _ 19 (by decide +kernel) h
end
/-! StaticKernelModel.worker()I -/
set_option maxRecDepth 100000 in
theorem ck_46 : chkM (mt 46) cd_46 = true := by decide +kernel
section
variable {post : Option AV → AMem → Prop} {loc : Lc} {stk : List AV} {M : AMem}
theorem b_46_0 (h : wpl (Wq 46 cd_46 post) post [.aload 0, .invokevirtual 12059, .istore 1, .aload 0, .invokevirtual 12315, .istore 2, .iload 1, .iconst (-1), .if_icmp .eq 13, .iconst 1000, .iload 1, .iadd, .goto 21] 0 loc stk M) : Wq 46 cd_46 post 0 loc stk M := prefB_run ck_46 _ 0 (by decide +kernel) h
theorem b_46_13 (h : wpl (Wq 46 cd_46 post) post [.iload 2, .iconst (-1), .if_icmp .ne 18, .iconst 0, .goto 21] 13 loc stk M) : Wq 46 cd_46 post 13 loc stk M := prefB_run ck_46 _ 13 (by decide +kernel) h
theorem b_46_18 (h : wpl (Wq 46 cd_46 post) post [.iconst 1, .iload 2, .iadd, .ret 0] 18 loc stk M) : Wq 46 cd_46 post 18 loc stk M := prefB_run ck_46 _ 18 (by decide +kernel) h
theorem b_46_21 (h : wpl (Wq 46 cd_46 post) post [.ret 0] 21 loc stk M) : Wq 46 cd_46 post 21 loc stk M := prefB_run ck_46 _ 21 (by decide +kernel) h
end
/-! StaticKernelModel.isrAtWork()I -/
set_option maxRecDepth 100000 in
theorem ck_47 : chkM (mt 47) cd_47 = true := by decide +kernel
section
variable {post : Option AV → AMem → Prop} {loc : Lc} {stk : List AV} {M : AMem}
theorem b_47_0 (h : wpl (Wq 47 cd_47 post) post [.iconst 0, .istore 1] 0 loc stk M) : Wq 47 cd_47 post 0 loc stk M := prefB_run ck_47 _ 0 (by decide +kernel) h
theorem b_47_2 (h : wpl (Wq 47 cd_47 post) post [.iload 1, .aload 0, .getfield 11803038099, .iconst 5, .iaload, .if_icmp .ge 24, .aload 0, .getfield 26931204659, .iload 1, .iaload, .aload 0, .getfield 4660, .iconst 1, .isub, .if_icmp .ne 22, .aload 0, .getfield 4660, .ifCond .le 22, .iload 1, .ret 0] 2 loc stk M) : Wq 47 cd_47 post 2 loc stk M := prefB_run ck_47 _ 2 (by decide +kernel) h
theorem b_47_22 (h : wpl (Wq 47 cd_47 post) post [.iinc 1 1, .goto 2] 22 loc stk M) : Wq 47 cd_47 post 22 loc stk M := prefB_run ck_47 _ 22 (by decide +kernel) h
theorem b_47_24 (h : wpl (Wq 47 cd_47 post) post [.iconst (-1), .ret 0] 24 loc stk M) : Wq 47 cd_47 post 24 loc stk M := prefB_run ck_47 _ 24 (by decide +kernel) h
end
/-! StaticKernelModel.runner()I -/
set_option maxRecDepth 100000 in
theorem ck_48 : chkM (mt 48) cd_48 = true := by decide +kernel
section
variable {post : Option AV → AMem → Prop} {loc : Lc} {stk : List AV} {M : AMem}
theorem b_48_0 (h : wpl (Wq 48 cd_48 post) post [.iconst 0, .istore 1] 0 loc stk M) : Wq 48 cd_48 post 0 loc stk M := prefB_run ck_48 _ 0 (by decide +kernel) h
theorem b_48_2 (h : wpl (Wq 48 cd_48 post) post [.iload 1, .iconst 400, .if_icmp .ge 15, .aload 0, .getfield 671168926219, .iload 1, .iaload, .iconst 2, .if_icmp .ne 13, .iload 1, .ret 0] 2 loc stk M) : Wq 48 cd_48 post 2 loc stk M := prefB_run ck_48 _ 2 (by decide +kernel) h
theorem b_48_13 (h : wpl (Wq 48 cd_48 post) post [.iinc 1 1, .goto 2] 13 loc stk M) : Wq 48 cd_48 post 13 loc stk M := prefB_run ck_48 _ 13 (by decide +kernel) h
theorem b_48_15 (h : wpl (Wq 48 cd_48 post) post [.iconst (-1), .ret 0] 15 loc stk M) : Wq 48 cd_48 post 15 loc stk M := prefB_run ck_48 _ 15 (by decide +kernel) h
end
/-! StaticKernelModel.refused(II)I -/
set_option maxRecDepth 100000 in
theorem ck_49 : chkM (mt 49) cd_49 = true := by decide +kernel
section
variable {post : Option AV → AMem → Prop} {loc : Lc} {stk : List AV} {M : AMem}
theorem b_49_0 (h : wpl (Wq 49 cd_49 post) post [.aload 0, .iconst 3, .iconst 100, .iload 1, .imul, .iload 2, .iadd, .invokevirtual 12859, .iload 2, .ret 0] 0 loc stk M) : Wq 49 cd_49 post 0 loc stk M := prefB_run ck_49 _ 0 (by decide +kernel) h
end
/-! StaticKernelModel.notes(II)V -/
set_option maxRecDepth 100000 in
theorem ck_50 : chkM (mt 50) cd_50 = true := by decide +kernel
section
variable {post : Option AV → AMem → Prop} {loc : Lc} {stk : List AV} {M : AMem}
theorem b_50_0 (h : wpl (Wq 50 cd_50 post) post [.aload 0, .getfield 838954193491, .aload 0, .getfield 4692, .iconst 500, .irem, .iconst 10000, .iload 1, .imul, .iload 2, .iadd, .iastore, .aload 0, .dup, .getfield 4692, .iconst 1, .iadd, .putfield 4692, .return_] 0 loc stk M) : Wq 50 cd_50 post 0 loc stk M := prefB_run ck_50 _ 0 (by decide +kernel) h
end
/-! StaticKernelModel.isTask(I)Z -/
set_option maxRecDepth 100000 in
theorem ck_51 : chkM (mt 51) cd_51 = true := by decide +kernel
section
variable {post : Option AV → AMem → Prop} {loc : Lc} {stk : List AV} {M : AMem}
theorem b_51_0 (h : wpl (Wq 51 cd_51 post) post [.iload 1, .ifCond .lt 10, .iload 1, .aload 0, .getfield 11803038099, .iconst 4, .iaload, .if_icmp .ge 10, .iconst 1, .goto 11] 0 loc stk M) : Wq 51 cd_51 post 0 loc stk M := prefB_run ck_51 _ 0 (by decide +kernel) h
theorem b_51_10 (h : wpl (Wq 51 cd_51 post) post [.iconst 0, .ret 1] 10 loc stk M) : Wq 51 cd_51 post 10 loc stk M := prefB_run ck_51 _ 10 (by decide +kernel) h
theorem b_51_11 (h : wpl (Wq 51 cd_51 post) post [.ret 1] 11 loc stk M) : Wq 51 cd_51 post 11 loc stk M := prefB_run ck_51 _ 11 (by decide +kernel) h
end
/-! StaticKernelModel.requestsOf(I)I -/
set_option maxRecDepth 100000 in
theorem ck_52 : chkM (mt 52) cd_52 = true := by decide +kernel
section
variable {post : Option AV → AMem → Prop} {loc : Lc} {stk : List AV} {M : AMem}
theorem b_52_0 (h : wpl (Wq 52 cd_52 post) post [.iconst 0, .istore 2, .iconst 0, .istore 3] 0 loc stk M) : Wq 52 cd_52 post 0 loc stk M := prefB_run ck_52 _ 0 (by decide +kernel) h
theorem b_52_4 (h : wpl (Wq 52 cd_52 post) post [.iload 3, .iconst 400, .if_icmp .ge 26, .iload 2, .aload 0, .getfield 671168926219, .iload 3, .iaload, .ifCond .eq 21, .aload 0, .getfield 671168107015, .iload 3, .iaload, .iload 1, .if_icmp .ne 21, .iconst 1, .goto 22] 4 loc stk M) : Wq 52 cd_52 post 4 loc stk M := prefB_run ck_52 _ 4 (by decide +kernel) h
theorem b_52_21 (h : wpl (Wq 52 cd_52 post) post [.iconst 0, .iadd, .istore 2, .iinc 3 1, .goto 4] 21 loc stk M) : Wq 52 cd_52 post 21 loc stk M := prefB_run ck_52 _ 21 (by decide +kernel) h
theorem b_52_22 (h : wpl (Wq 52 cd_52 post) post [.iadd, .istore 2, .iinc 3 1, .goto 4] 22 loc stk M) : Wq 52 cd_52 post 22 loc stk M := prefB_run ck_52 _ 22 (by decide +kernel) h
theorem b_52_26 (h : wpl (Wq 52 cd_52 post) post [.iload 2, .ret 0] 26 loc stk M) : Wq 52 cd_52 post 26 loc stk M := prefB_run ck_52 _ 26 (by decide +kernel) h
end
/-! StaticKernelModel.requests(I)V -/
set_option maxRecDepth 100000 in
theorem ck_53 : chkM (mt 53) cd_53 = true := by decide +kernel
section
variable {post : Option AV → AMem → Prop} {loc : Lc} {stk : List AV} {M : AMem}
theorem b_53_0 (h : wpl (Wq 53 cd_53 post) post [.aload 0, .iload 1, .invokevirtual 13355, .ifCond .ne 14, .aload 0, .getfield 80599454147, .iload 1, .iaload, .ifCond .eq 14, .aload 0, .getfield 80614199839, .iload 1, .iconst 0, .iastore, .iconst 0, .istore 2] 0 loc stk M) : Wq 53 cd_53 post 0 loc stk M := prefB_run ck_53 _ 0 (by decide +kernel) h
theorem b_53_14 (h : wpl (Wq 53 cd_53 post) post [.iconst 0, .istore 2] 14 loc stk M) : Wq 53 cd_53 post 14 loc stk M := prefB_run ck_53 _ 14 (by decide +kernel) h
theorem b_53_16 (h : wpl (Wq 53 cd_53 post) post [.aload 0, .getfield 671168926219, .iload 2, .iaload, .ifCond .eq 23, .iinc 2 1, .goto 16] 16 loc stk M) : Wq 53 cd_53 post 16 loc stk M := prefB_run ck_53 _ 16 (by decide +kernel) h
theorem b_53_23 (h : wpl (Wq 53 cd_53 post) post [.aload 0, .getfield 671168107015, .iload 2, .iload 1, .iastore, .aload 0, .getfield 671384375851, .iload 2, .iconst 0, .bastore, .aload 0, .iload 2, .invokevirtual 13867, .return_] 23 loc stk M) : Wq 53 cd_53 post 23 loc stk M := prefB_run ck_53 _ 23 (by decide +kernel) h
end
/-! StaticKernelModel.comesLast(I)V -/
set_option maxRecDepth 100000 in
theorem ck_54 : chkM (mt 54) cd_54 = true := by decide +kernel
section
variable {post : Option AV → AMem → Prop} {loc : Lc} {stk : List AV} {M : AMem}
theorem b_54_0 (h : wpl (Wq 54 cd_54 post) post [.aload 0, .getfield 671168926219, .iload 1, .iconst 1, .iastore, .aload 0, .getfield 671169745423, .iload 1, .aload 0, .getfield 80596996535, .aload 0, .getfield 671168107015, .iload 1, .iaload, .iaload, .iastore, .aload 0, .dup, .getfield 4634, .ldc2_w 1, .ladd, .putfield 4634, .aload 0, .getfield 671589995027, .iload 1, .aload 0, .getfield 4634, .lastore, .return_] 0 loc stk M) : Wq 54 cd_54 post 0 loc stk M := prefB_run ck_54 _ 0 (by decide +kernel) h
end
/-! StaticKernelModel.settled(I)I -/
set_option maxRecDepth 100000 in
theorem ck_55 : chkM (mt 55) cd_55 = true := by decide +kernel
section
variable {post : Option AV → AMem → Prop} {loc : Lc} {stk : List AV} {M : AMem}
theorem b_55_0 (h : wpl (Wq 55 cd_55 post) post [.aload 0, .invokevirtual 14363, .aload 0, .invokevirtual 16667, .iload 1, .ret 0] 0 loc stk M) : Wq 55 cd_55 post 0 loc stk M := prefB_run ck_55 _ 0 (by decide +kernel) h
end
/-! StaticKernelModel.settles()V -/
set_option maxRecDepth 100000 in
theorem ck_56 : chkM (mt 56) cd_56 = true := by decide +kernel
section
variable {post : Option AV → AMem → Prop} {loc : Lc} {stk : List AV} {M : AMem}
theorem b_56_0 (h : wpl (Wq 56 cd_56 post) post [.aload 0, .getfield 4601, .ifCond .eq 6, .aload 0, .getfield 4608, .ifCond .le 7, .return_] 0 loc stk M) : Wq 56 cd_56 post 0 loc stk M := prefB_run ck_56 _ 0 (by decide +kernel) h
theorem b_56_6 (h : wpl (Wq 56 cd_56 post) post [.return_] 6 loc stk M) : Wq 56 cd_56 post 6 loc stk M := prefB_run ck_56 _ 6 (by decide +kernel) h
theorem b_56_7 (h : wpl (Wq 56 cd_56 post) post [.iconst 1, .istore 1] 7 loc stk M) : Wq 56 cd_56 post 7 loc stk M := prefB_run ck_56 _ 7 (by decide +kernel) h
theorem b_56_9 (h : wpl (Wq 56 cd_56 post) post [.iload 1, .ifCond .eq 93, .aload 0, .invokevirtual 11803, .istore 2, .iload 2, .ifCond .ne 18, .iconst (-1), .goto 21] 9 loc stk M) : Wq 56 cd_56 post 9 loc stk M := prefB_run ck_56 _ 9 (by decide +kernel) h
theorem b_56_18 (h : wpl (Wq 56 cd_56 post) post [.aload 0, .iload 2, .invokevirtual 14635, .istore 3, .iconst (-1), .istore 4, .aload 0, .getfield 11803038099, .iconst 5, .iaload, .iconst 1, .isub, .istore 5] 18 loc stk M) : Wq 56 cd_56 post 18 loc stk M := prefB_run ck_56 _ 18 (by decide +kernel) h
theorem b_56_21 (h : wpl (Wq 56 cd_56 post) post [.istore 3, .iconst (-1), .istore 4, .aload 0, .getfield 11803038099, .iconst 5, .iaload, .iconst 1, .isub, .istore 5] 21 loc stk M) : Wq 56 cd_56 post 21 loc stk M := prefB_run ck_56 _ 21 (by decide +kernel) h
theorem b_56_31 (h : wpl (Wq 56 cd_56 post) post [.iload 5, .ifCond .lt 62, .aload 0, .getfield 27140100655, .iload 5, .baload, .ifCond .eq 60, .iload 2, .ifCond .eq 46, .aload 0, .getfield 26914820559, .iload 5, .iaload, .iload 3, .if_icmp .le 60, .iload 4, .iconst (-1), .if_icmp .eq 58, .aload 0, .getfield 26914820559, .iload 5, .iaload, .aload 0, .getfield 26914820559, .iload 4, .iaload, .if_icmp .lt 60, .iload 5, .istore 4, .iinc 5 (-1), .goto 31] 31 loc stk M) : Wq 56 cd_56 post 31 loc stk M := prefB_run ck_56 _ 31 (by decide +kernel) h
theorem b_56_46 (h : wpl (Wq 56 cd_56 post) post [.iload 4, .iconst (-1), .if_icmp .eq 58, .aload 0, .getfield 26914820559, .iload 5, .iaload, .aload 0, .getfield 26914820559, .iload 4, .iaload, .if_icmp .lt 60, .iload 5, .istore 4, .iinc 5 (-1), .goto 31] 46 loc stk M) : Wq 56 cd_56 post 46 loc stk M := prefB_run ck_56 _ 46 (by decide +kernel) h
theorem b_56_58 (h : wpl (Wq 56 cd_56 post) post [.iload 5, .istore 4, .iinc 5 (-1), .goto 31] 58 loc stk M) : Wq 56 cd_56 post 58 loc stk M := prefB_run ck_56 _ 58 (by decide +kernel) h
theorem b_56_60 (h : wpl (Wq 56 cd_56 post) post [.iinc 5 (-1), .goto 31] 60 loc stk M) : Wq 56 cd_56 post 60 loc stk M := prefB_run ck_56 _ 60 (by decide +kernel) h
theorem b_56_62 (h : wpl (Wq 56 cd_56 post) post [.iload 4, .iconst (-1), .if_icmp .eq 67, .iconst 1, .goto 68] 62 loc stk M) : Wq 56 cd_56 post 62 loc stk M := prefB_run ck_56 _ 62 (by decide +kernel) h
theorem b_56_67 (h : wpl (Wq 56 cd_56 post) post [.iconst 0, .istore 1, .iload 1, .ifCond .eq 92, .aload 0, .getfield 27140100655, .iload 4, .iconst 0, .bastore, .aload 0, .getfield 26931204659, .iload 4, .aload 0, .getfield 4660, .iastore, .aload 0, .dup, .getfield 4660, .iconst 1, .iadd, .putfield 4660, .aload 0, .iconst 5, .iload 4, .invokevirtual 12859, .goto 9] 67 loc stk M) : Wq 56 cd_56 post 67 loc stk M := prefB_run ck_56 _ 67 (by decide +kernel) h
theorem b_56_68 (h : wpl (Wq 56 cd_56 post) post [.istore 1, .iload 1, .ifCond .eq 92, .aload 0, .getfield 27140100655, .iload 4, .iconst 0, .bastore, .aload 0, .getfield 26931204659, .iload 4, .aload 0, .getfield 4660, .iastore, .aload 0, .dup, .getfield 4660, .iconst 1, .iadd, .putfield 4660, .aload 0, .iconst 5, .iload 4, .invokevirtual 12859, .goto 9] 68 loc stk M) : Wq 56 cd_56 post 68 loc stk M := prefB_run ck_56 _ 68 (by decide +kernel) h
theorem b_56_92 (h : wpl (Wq 56 cd_56 post) post [.goto 9] 92 loc stk M) : Wq 56 cd_56 post 92 loc stk M := prefB_run ck_56 _ 92 (by decide +kernel) h
theorem b_56_93 (h : wpl (Wq 56 cd_56 post) post [.aload 0, .invokevirtual 12315, .istore 2, .aload 0, .invokevirtual 15387, .istore 3, .aload 0, .getfield 4660, .ifCond .gt 105, .iload 3, .iconst (-1), .if_icmp .ne 106, .return_] 93 loc stk M) : Wq 56 cd_56 post 93 loc stk M := prefB_run ck_56 _ 93 (by decide +kernel) h
theorem b_56_105 (h : wpl (Wq 56 cd_56 post) post [.return_] 105 loc stk M) : Wq 56 cd_56 post 105 loc stk M := prefB_run ck_56 _ 105 (by decide +kernel) h
theorem b_56_106 (h : wpl (Wq 56 cd_56 post) post [.iload 2, .iconst (-1), .if_icmp .ne 113, .aload 0, .iload 3, .invokevirtual 15915, .goto 137] 106 loc stk M) : Wq 56 cd_56 post 106 loc stk M := prefB_run ck_56 _ 106 (by decide +kernel) h
theorem b_56_113 (h : wpl (Wq 56 cd_56 post) post [.aload 0, .getfield 80807530939, .aload 0, .getfield 671168107015, .iload 2, .iaload, .baload, .ifCond .ne 137, .aload 0, .getfield 671169745423, .iload 3, .iaload, .aload 0, .iconst 1, .iload 2, .iadd, .invokevirtual 14635, .if_icmp .le 137, .aload 0, .iload 2, .invokevirtual 16171, .aload 0, .iload 3, .invokevirtual 15915, .return_] 113 loc stk M) : Wq 56 cd_56 post 113 loc stk M := prefB_run ck_56 _ 113 (by decide +kernel) h
theorem b_56_137 (h : wpl (Wq 56 cd_56 post) post [.return_] 137 loc stk M) : Wq 56 cd_56 post 137 loc stk M := prefB_run ck_56 _ 137 (by decide +kernel) h
end
/-! StaticKernelModel.currentPriority(I)I -/
set_option maxRecDepth 100000 in
theorem ck_57 : chkM (mt 57) cd_57 = true := by decide +kernel
section
variable {post : Option AV → AMem → Prop} {loc : Lc} {stk : List AV} {M : AMem}
theorem b_57_0 (h : wpl (Wq 57 cd_57 post) post [.aload 0, .iload 1, .invokevirtual 14891, .istore 2, .iconst 0, .istore 3] 0 loc stk M) : Wq 57 cd_57 post 0 loc stk M := prefB_run ck_57 _ 0 (by decide +kernel) h
theorem b_57_6 (h : wpl (Wq 57 cd_57 post) post [.iload 3, .aload 0, .iconst 2, .invokevirtual 10283, .if_icmp .ge 26, .aload 0, .getfield 53771473443, .iload 3, .iaload, .iload 1, .if_icmp .ne 24, .iload 2, .aload 0, .getfield 53750174119, .iload 3, .iaload, .invokestatic 32, .istore 2, .iinc 3 1, .goto 6] 6 loc stk M) : Wq 57 cd_57 post 6 loc stk M := prefB_run ck_57 _ 6 (by decide +kernel) h
theorem b_57_24 (h : wpl (Wq 57 cd_57 post) post [.iinc 3 1, .goto 6] 24 loc stk M) : Wq 57 cd_57 post 24 loc stk M := prefB_run ck_57 _ 24 (by decide +kernel) h
theorem b_57_26 (h : wpl (Wq 57 cd_57 post) post [.iload 1, .iconst 1000, .if_icmp .ge 50, .aload 0, .getfield 671384375851, .iload 1, .iconst 1, .isub, .baload, .ifCond .eq 50, .iload 2, .aload 0, .getfield 53750174119, .aload 0, .aload 0, .getfield 671168107015, .iload 1, .iconst 1, .isub, .iaload, .invokevirtual 15147, .iaload, .invokestatic 32, .istore 2, .iload 2, .ret 0] 26 loc stk M) : Wq 57 cd_57 post 26 loc stk M := prefB_run ck_57 _ 26 (by decide +kernel) h
theorem b_57_50 (h : wpl (Wq 57 cd_57 post) post [.iload 2, .ret 0] 50 loc stk M) : Wq 57 cd_57 post 50 loc stk M := prefB_run ck_57 _ 50 (by decide +kernel) h
end
