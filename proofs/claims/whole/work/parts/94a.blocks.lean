/-! StaticKernelModel.wordOf(II)I -/
set_option maxRecDepth 100000 in
theorem ck_10 : chkM (mt 10) cd_10 = true := by decide +kernel
section
variable {post : Option AV → AMem → Prop} {loc : Lc} {stk : List AV} {M : AMem}
theorem b_10_0 (h : wpl (Wq 10 cd_10 post) post [.iconst 10, .istore 3, .iconst 0, .istore 4] 0 loc stk M) : Wq 10 cd_10 post 0 loc stk M := prefB_run ck_10 _ 0 (by decide +kernel) h
theorem b_10_4 (h : wpl (Wq 10 cd_10 post) post [.iload 4, .ldc_w 0, .instanceof 0, .if_icmp .ge 60, .iload 4, .istore 5] 4 loc stk M) : Wq 10 cd_10 post 4 loc stk M := prefB_run ck_10 _ 4 (by decide +kernel) h
theorem b_10_10 (h : wpl (Wq 10 cd_10 post) post [.ldc_w 0, .iload 5, .instanceof 1, .iconst 32, .if_icmp .eq 17, .iinc 5 1, .goto 10] 10 loc stk M) : Wq 10 cd_10 post 10 loc stk M := prefB_run ck_10 _ 10 (by decide +kernel) h
theorem b_10_17 (h : wpl (Wq 10 cd_10 post) post [.iload 5, .iload 4, .isub, .iload 2, .if_icmp .ne 24, .iconst 1, .goto 25] 17 loc stk M) : Wq 10 cd_10 post 17 loc stk M := prefB_run ck_10 _ 17 (by decide +kernel) h
theorem b_10_24 (h : wpl (Wq 10 cd_10 post) post [.iconst 0, .istore 6, .iconst 0, .istore 7] 24 loc stk M) : Wq 10 cd_10 post 24 loc stk M := prefB_run ck_10 _ 24 (by decide +kernel) h
theorem b_10_25 (h : wpl (Wq 10 cd_10 post) post [.istore 6, .iconst 0, .istore 7] 25 loc stk M) : Wq 10 cd_10 post 25 loc stk M := prefB_run ck_10 _ 25 (by decide +kernel) h
theorem b_10_28 (h : wpl (Wq 10 cd_10 post) post [.iload 7, .iload 2, .if_icmp .ge 50, .iload 6, .ifCond .eq 50, .ldc_w 0, .iload 4, .iload 7, .iadd, .instanceof 1, .aload 0, .iload 1, .iload 7, .iadd, .invokevirtual 1579, .if_icmp .ne 46, .iconst 1, .goto 47] 28 loc stk M) : Wq 10 cd_10 post 28 loc stk M := prefB_run ck_10 _ 28 (by decide +kernel) h
theorem b_10_46 (h : wpl (Wq 10 cd_10 post) post [.iconst 0, .istore 6, .iinc 7 1, .goto 28] 46 loc stk M) : Wq 10 cd_10 post 46 loc stk M := prefB_run ck_10 _ 46 (by decide +kernel) h
theorem b_10_47 (h : wpl (Wq 10 cd_10 post) post [.istore 6, .iinc 7 1, .goto 28] 47 loc stk M) : Wq 10 cd_10 post 47 loc stk M := prefB_run ck_10 _ 47 (by decide +kernel) h
theorem b_10_50 (h : wpl (Wq 10 cd_10 post) post [.iload 6, .ifCond .eq 54, .iload 3, .ret 0] 50 loc stk M) : Wq 10 cd_10 post 50 loc stk M := prefB_run ck_10 _ 50 (by decide +kernel) h
theorem b_10_54 (h : wpl (Wq 10 cd_10 post) post [.iinc 3 1, .iload 5, .iconst 1, .iadd, .istore 4, .goto 4] 54 loc stk M) : Wq 10 cd_10 post 54 loc stk M := prefB_run ck_10 _ 54 (by decide +kernel) h
theorem b_10_60 (h : wpl (Wq 10 cd_10 post) post [.iconst 2, .ret 0] 60 loc stk M) : Wq 10 cd_10 post 60 loc stk M := prefB_run ck_10 _ 60 (by decide +kernel) h
end
