/-! StaticKernelModel.ownPriority(I)I -/
set_option maxRecDepth 100000 in
theorem ck_58 : chkM (mt 58) cd_58 = true := by decide +kernel
section
variable {post : Option AV → AMem → Prop} {loc : Lc} {stk : List AV} {M : AMem}
theorem b_58_0 (h : wpl (Wq 58 cd_58 post) post [.iload 1, .iconst 1000, .if_icmp .lt 10, .aload 0, .getfield 26914820559, .iload 1, .iconst 1000, .isub, .iaload, .goto 19] 0 loc stk M) : Wq 58 cd_58 post 0 loc stk M := prefB_run ck_58 _ 0 (by decide +kernel) h
theorem b_58_10 (h : wpl (Wq 58 cd_58 post) post [.aload 0, .getfield 80596996535, .aload 0, .getfield 671168107015, .iload 1, .iconst 1, .isub, .iaload, .iaload, .ret 0] 10 loc stk M) : Wq 58 cd_58 post 10 loc stk M := prefB_run ck_58 _ 10 (by decide +kernel) h
theorem b_58_19 (h : wpl (Wq 58 cd_58 post) post [.ret 0] 19 loc stk M) : Wq 58 cd_58 post 19 loc stk M := prefB_run ck_58 _ 19 (by decide +kernel) h
end
/-! StaticKernelModel.internalOf(I)I -/
set_option maxRecDepth 100000 in
theorem ck_59 : chkM (mt 59) cd_59 = true := by decide +kernel
section
variable {post : Option AV → AMem → Prop} {loc : Lc} {stk : List AV} {M : AMem}
theorem b_59_0 (h : wpl (Wq 59 cd_59 post) post [.iconst 1, .istore 2] 0 loc stk M) : Wq 59 cd_59 post 0 loc stk M := prefB_run ck_59 _ 0 (by decide +kernel) h
theorem b_59_2 (h : wpl (Wq 59 cd_59 post) post [.iload 2, .aload 0, .getfield 11803038099, .iconst 2, .iaload, .if_icmp .ge 27, .aload 0, .getfield 53958250911, .iload 2, .baload, .ifCond .eq 25, .aload 0, .getfield 80601092555, .iload 1, .iaload, .iload 2, .ishr, .iconst 1, .iand, .iconst 1, .if_icmp .ne 25, .iload 2, .ret 0] 2 loc stk M) : Wq 59 cd_59 post 2 loc stk M := prefB_run ck_59 _ 2 (by decide +kernel) h
theorem b_59_25 (h : wpl (Wq 59 cd_59 post) post [.iinc 2 1, .goto 2] 25 loc stk M) : Wq 59 cd_59 post 25 loc stk M := prefB_run ck_59 _ 25 (by decide +kernel) h
theorem b_59_27 (h : wpl (Wq 59 cd_59 post) post [.iconst (-1), .ret 0] 27 loc stk M) : Wq 59 cd_59 post 27 loc stk M := prefB_run ck_59 _ 27 (by decide +kernel) h
end
/-! StaticKernelModel.top()I -/
set_option maxRecDepth 100000 in
theorem ck_60 : chkM (mt 60) cd_60 = true := by decide +kernel
section
variable {post : Option AV → AMem → Prop} {loc : Lc} {stk : List AV} {M : AMem}
theorem b_60_0 (h : wpl (Wq 60 cd_60 post) post [.iconst (-1), .istore 1, .iconst 0, .istore 2] 0 loc stk M) : Wq 60 cd_60 post 0 loc stk M := prefB_run ck_60 _ 0 (by decide +kernel) h
theorem b_60_4 (h : wpl (Wq 60 cd_60 post) post [.iload 2, .iconst 400, .if_icmp .ge 25, .aload 0, .getfield 671168926219, .iload 2, .iaload, .iconst 1, .if_icmp .ne 23, .iload 1, .iconst (-1), .if_icmp .eq 21, .aload 0, .iload 2, .iload 1, .invokevirtual 15675, .ifCond .eq 23, .iload 2, .istore 1, .iinc 2 1, .goto 4] 4 loc stk M) : Wq 60 cd_60 post 4 loc stk M := prefB_run ck_60 _ 4 (by decide +kernel) h
theorem b_60_21 (h : wpl (Wq 60 cd_60 post) post [.iload 2, .istore 1, .iinc 2 1, .goto 4] 21 loc stk M) : Wq 60 cd_60 post 21 loc stk M := prefB_run ck_60 _ 21 (by decide +kernel) h
theorem b_60_23 (h : wpl (Wq 60 cd_60 post) post [.iinc 2 1, .goto 4] 23 loc stk M) : Wq 60 cd_60 post 23 loc stk M := prefB_run ck_60 _ 23 (by decide +kernel) h
theorem b_60_25 (h : wpl (Wq 60 cd_60 post) post [.iload 1, .ret 0] 25 loc stk M) : Wq 60 cd_60 post 25 loc stk M := prefB_run ck_60 _ 25 (by decide +kernel) h
end
/-! StaticKernelModel.isAhead(II)Z -/
set_option maxRecDepth 100000 in
theorem ck_61 : chkM (mt 61) cd_61 = true := by decide +kernel
section
variable {post : Option AV → AMem → Prop} {loc : Lc} {stk : List AV} {M : AMem}
theorem b_61_0 (h : wpl (Wq 61 cd_61 post) post [.aload 0, .getfield 671169745423, .iload 1, .iaload, .aload 0, .getfield 671169745423, .iload 2, .iaload, .if_icmp .gt 28, .aload 0, .getfield 671169745423, .iload 1, .iaload, .aload 0, .getfield 671169745423, .iload 2, .iaload, .if_icmp .ne 30, .aload 0, .getfield 671589995027, .iload 1, .laload, .aload 0, .getfield 671589995027, .iload 2, .laload, .lcmp, .ifCond .ge 30, .iconst 1, .goto 31] 0 loc stk M) : Wq 61 cd_61 post 0 loc stk M := prefB_run ck_61 _ 0 (by decide +kernel) h
theorem b_61_28 (h : wpl (Wq 61 cd_61 post) post [.iconst 1, .goto 31] 28 loc stk M) : Wq 61 cd_61 post 28 loc stk M := prefB_run ck_61 _ 28 (by decide +kernel) h
theorem b_61_30 (h : wpl (Wq 61 cd_61 post) post [.iconst 0, .ret 1] 30 loc stk M) : Wq 61 cd_61 post 30 loc stk M := prefB_run ck_61 _ 30 (by decide +kernel) h
theorem b_61_31 (h : wpl (Wq 61 cd_61 post) post [.ret 1] 31 loc stk M) : Wq 61 cd_61 post 31 loc stk M := prefB_run ck_61 _ 31 (by decide +kernel) h
end
/-! StaticKernelModel.runs(I)V -/
set_option maxRecDepth 100000 in
theorem ck_62 : chkM (mt 62) cd_62 = true := by decide +kernel
section
variable {post : Option AV → AMem → Prop} {loc : Lc} {stk : List AV} {M : AMem}
theorem b_62_0 (h : wpl (Wq 62 cd_62 post) post [.aload 0, .getfield 671168926219, .iload 1, .iconst 2, .iastore, .aload 0, .getfield 671384375851, .iload 1, .aload 0, .aload 0, .getfield 671168107015, .iload 1, .iaload, .invokevirtual 15147, .iconst (-1), .if_icmp .eq 18, .iconst 1, .goto 19] 0 loc stk M) : Wq 62 cd_62 post 0 loc stk M := prefB_run ck_62 _ 0 (by decide +kernel) h
theorem b_62_18 (h : wpl (Wq 62 cd_62 post) post [.iconst 0, .bastore, .aload 0, .iconst 1, .aload 0, .getfield 671168107015, .iload 1, .iaload, .invokevirtual 12859, .return_] 18 loc stk M) : Wq 62 cd_62 post 18 loc stk M := prefB_run ck_62 _ 18 (by decide +kernel) h
theorem b_62_19 (h : wpl (Wq 62 cd_62 post) post [.bastore, .aload 0, .iconst 1, .aload 0, .getfield 671168107015, .iload 1, .iaload, .invokevirtual 12859, .return_] 19 loc stk M) : Wq 62 cd_62 post 19 loc stk M := prefB_run ck_62 _ 19 (by decide +kernel) h
end
/-! StaticKernelModel.preempts(I)V -/
set_option maxRecDepth 100000 in
theorem ck_63 : chkM (mt 63) cd_63 = true := by decide +kernel
section
variable {post : Option AV → AMem → Prop} {loc : Lc} {stk : List AV} {M : AMem}
theorem b_63_0 (h : wpl (Wq 63 cd_63 post) post [.aload 0, .iconst 1, .iload 1, .iadd, .invokevirtual 14635, .istore 2, .aload 0, .iload 1, .iconst 1, .invokevirtual 16443, .aload 0, .getfield 671169745423, .iload 1, .iload 2, .iastore, .aload 0, .dup, .getfield 4634, .ldc2_w 1, .ladd, .putfield 4634, .aload 0, .getfield 671589995027, .iload 1, .aload 0, .getfield 4634, .lneg, .lastore, .return_] 0 loc stk M) : Wq 63 cd_63 post 0 loc stk M := prefB_run ck_63 _ 0 (by decide +kernel) h
end
/-! StaticKernelModel.stops(II)V -/
set_option maxRecDepth 100000 in
theorem ck_64 : chkM (mt 64) cd_64 = true := by decide +kernel
section
variable {post : Option AV → AMem → Prop} {loc : Lc} {stk : List AV} {M : AMem}
theorem b_64_0 (h : wpl (Wq 64 cd_64 post) post [.aload 0, .getfield 671168926219, .iload 1, .iload 2, .iastore, .aload 0, .iconst 2, .aload 0, .getfield 671168107015, .iload 1, .iaload, .invokevirtual 12859, .return_] 0 loc stk M) : Wq 64 cd_64 post 0 loc stk M := prefB_run ck_64 _ 0 (by decide +kernel) h
end
/-! StaticKernelModel.looks()V -/
set_option maxRecDepth 100000 in
theorem ck_65 : chkM (mt 65) cd_65 = true := by decide +kernel
section
variable {post : Option AV → AMem → Prop} {loc : Lc} {stk : List AV} {M : AMem}
theorem b_65_0 (h : wpl (Wq 65 cd_65 post) post [.aload 0, .getfield 4601, .ifCond .ne 4, .return_] 0 loc stk M) : Wq 65 cd_65 post 0 loc stk M := prefB_run ck_65 _ 0 (by decide +kernel) h
theorem b_65_4 (h : wpl (Wq 65 cd_65 post) post [.aload 0, .invokevirtual 12315, .istore 1, .aload 0, .invokevirtual 15387, .istore 2, .aload 0, .getfield 4608, .ifCond .ne 46, .aload 0, .getfield 4660, .ifCond .ne 46, .iload 2, .iconst (-1), .if_icmp .eq 46, .iload 1, .iconst (-1), .if_icmp .eq 40, .aload 0, .getfield 80807530939, .aload 0, .getfield 671168107015, .iload 1, .iaload, .baload, .ifCond .ne 46, .aload 0, .getfield 671169745423, .iload 2, .iaload, .aload 0, .iconst 1, .iload 1, .iadd, .invokevirtual 14635, .if_icmp .le 46, .aload 0, .dup, .getfield 4696, .iconst 1, .iadd, .putfield 4696, .return_] 4 loc stk M) : Wq 65 cd_65 post 4 loc stk M := prefB_run ck_65 _ 4 (by decide +kernel) h
theorem b_65_40 (h : wpl (Wq 65 cd_65 post) post [.aload 0, .dup, .getfield 4696, .iconst 1, .iadd, .putfield 4696, .return_] 40 loc stk M) : Wq 65 cd_65 post 40 loc stk M := prefB_run ck_65 _ 40 (by decide +kernel) h
theorem b_65_46 (h : wpl (Wq 65 cd_65 post) post [.return_] 46 loc stk M) : Wq 65 cd_65 post 46 loc stk M := prefB_run ck_65 _ 46 (by decide +kernel) h
end
/-! StaticKernelModel.terminate()I -/
set_option maxRecDepth 100000 in
theorem ck_66 : chkM (mt 66) cd_66 = true := by decide +kernel
section
variable {post : Option AV → AMem → Prop} {loc : Lc} {stk : List AV} {M : AMem}
theorem b_66_0 (h : wpl (Wq 66 cd_66 post) post [.aload 0, .iconst 0, .putfield 4400, .aload 0, .iconst 2, .iconst 0, .invokevirtual 11579, .istore 1, .iload 1, .ifCond .ne 20, .aload 0, .iconst 2, .invokevirtual 17195, .istore 1, .iload 1, .ifCond .ne 20, .aload 0, .aload 0, .invokevirtual 12315, .invokevirtual 17707, .aload 0, .iload 1, .invokevirtual 14123, .ret 0] 0 loc stk M) : Wq 66 cd_66 post 0 loc stk M := prefB_run ck_66 _ 0 (by decide +kernel) h
theorem b_66_20 (h : wpl (Wq 66 cd_66 post) post [.aload 0, .iload 1, .invokevirtual 14123, .ret 0] 20 loc stk M) : Wq 66 cd_66 post 20 loc stk M := prefB_run ck_66 _ 20 (by decide +kernel) h
end
/-! StaticKernelModel.asTask(I)I -/
set_option maxRecDepth 100000 in
theorem ck_67 : chkM (mt 67) cd_67 = true := by decide +kernel
section
variable {post : Option AV → AMem → Prop} {loc : Lc} {stk : List AV} {M : AMem}
theorem b_67_0 (h : wpl (Wq 67 cd_67 post) post [.aload 0, .getfield 4660, .ifCond .le 8, .aload 0, .iload 1, .iconst 2, .invokevirtual 12603, .ret 0] 0 loc stk M) : Wq 67 cd_67 post 0 loc stk M := prefB_run ck_67 _ 0 (by decide +kernel) h
theorem b_67_8 (h : wpl (Wq 67 cd_67 post) post [.aload 0, .aload 0, .invokevirtual 11803, .invokevirtual 17451, .ifCond .eq 18, .aload 0, .iload 1, .iconst 6, .invokevirtual 12603, .goto 19] 8 loc stk M) : Wq 67 cd_67 post 8 loc stk M := prefB_run ck_67 _ 8 (by decide +kernel) h
theorem b_67_18 (h : wpl (Wq 67 cd_67 post) post [.iconst 0, .ret 0] 18 loc stk M) : Wq 67 cd_67 post 18 loc stk M := prefB_run ck_67 _ 18 (by decide +kernel) h
theorem b_67_19 (h : wpl (Wq 67 cd_67 post) post [.ret 0] 19 loc stk M) : Wq 67 cd_67 post 19 loc stk M := prefB_run ck_67 _ 19 (by decide +kernel) h
end
/-! StaticKernelModel.has(I)Z -/
set_option maxRecDepth 100000 in
theorem ck_68 : chkM (mt 68) cd_68 = true := by decide +kernel
section
variable {post : Option AV → AMem → Prop} {loc : Lc} {stk : List AV} {M : AMem}
theorem b_68_0 (h : wpl (Wq 68 cd_68 post) post [.iconst 0, .istore 2] 0 loc stk M) : Wq 68 cd_68 post 0 loc stk M := prefB_run ck_68 _ 0 (by decide +kernel) h
theorem b_68_2 (h : wpl (Wq 68 cd_68 post) post [.iload 2, .aload 0, .iconst 2, .invokevirtual 10283, .if_icmp .ge 17, .aload 0, .getfield 53771473443, .iload 2, .iaload, .iload 1, .if_icmp .ne 15, .iconst 1, .ret 1] 2 loc stk M) : Wq 68 cd_68 post 2 loc stk M := prefB_run ck_68 _ 2 (by decide +kernel) h
theorem b_68_15 (h : wpl (Wq 68 cd_68 post) post [.iinc 2 1, .goto 2] 15 loc stk M) : Wq 68 cd_68 post 15 loc stk M := prefB_run ck_68 _ 15 (by decide +kernel) h
theorem b_68_17 (h : wpl (Wq 68 cd_68 post) post [.iconst 0, .ret 1] 17 loc stk M) : Wq 68 cd_68 post 17 loc stk M := prefB_run ck_68 _ 17 (by decide +kernel) h
end
/-! StaticKernelModel.through(I)V -/
set_option maxRecDepth 100000 in
theorem ck_69 : chkM (mt 69) cd_69 = true := by decide +kernel
section
variable {post : Option AV → AMem → Prop} {loc : Lc} {stk : List AV} {M : AMem}
theorem b_69_0 (h : wpl (Wq 69 cd_69 post) post [.aload 0, .iload 1, .iconst 0, .invokevirtual 16443, .aload 0, .getfield 671384375851, .iload 1, .iconst 0, .bastore, .return_] 0 loc stk M) : Wq 69 cd_69 post 0 loc stk M := prefB_run ck_69 _ 0 (by decide +kernel) h
end
/-! StaticKernelModel.chain(I)I -/
set_option maxRecDepth 100000 in
theorem ck_70 : chkM (mt 70) cd_70 = true := by decide +kernel
section
variable {post : Option AV → AMem → Prop} {loc : Lc} {stk : List AV} {M : AMem}
theorem b_70_0 (h : wpl (Wq 70 cd_70 post) post [.aload 0, .iconst 0, .putfield 4400, .aload 0, .iconst 3, .iconst 0, .invokevirtual 11579, .istore 2, .iload 2, .ifCond .ne 14, .aload 0, .iconst 3, .invokevirtual 17195, .istore 2, .iload 2, .ifCond .ne 26, .aload 0, .iload 1, .invokevirtual 13099, .ifCond .ne 26, .aload 0, .iconst 3, .iconst 3, .invokevirtual 12603, .istore 2, .goto 58] 0 loc stk M) : Wq 70 cd_70 post 0 loc stk M := prefB_run ck_70 _ 0 (by decide +kernel) h
theorem b_70_14 (h : wpl (Wq 70 cd_70 post) post [.iload 2, .ifCond .ne 26, .aload 0, .iload 1, .invokevirtual 13099, .ifCond .ne 26, .aload 0, .iconst 3, .iconst 3, .invokevirtual 12603, .istore 2, .goto 58] 14 loc stk M) : Wq 70 cd_70 post 14 loc stk M := prefB_run ck_70 _ 14 (by decide +kernel) h
theorem b_70_26 (h : wpl (Wq 70 cd_70 post) post [.iload 2, .ifCond .ne 49, .iload 1, .aload 0, .getfield 671168107015, .aload 0, .invokevirtual 12315, .iaload, .if_icmp .eq 49, .aload 0, .iload 1, .invokevirtual 13355, .aload 0, .getfield 80598634943, .iload 1, .iaload, .if_icmp .ne 49, .aload 0, .iconst 3, .iconst 4, .invokevirtual 12603, .istore 2, .goto 58] 26 loc stk M) : Wq 70 cd_70 post 26 loc stk M := prefB_run ck_70 _ 26 (by decide +kernel) h
theorem b_70_49 (h : wpl (Wq 70 cd_70 post) post [.iload 2, .ifCond .ne 58, .aload 0, .aload 0, .invokevirtual 12315, .invokevirtual 17707, .aload 0, .iload 1, .invokevirtual 13611, .aload 0, .iload 2, .invokevirtual 14123, .ret 0] 49 loc stk M) : Wq 70 cd_70 post 49 loc stk M := prefB_run ck_70 _ 49 (by decide +kernel) h
theorem b_70_58 (h : wpl (Wq 70 cd_70 post) post [.aload 0, .iload 2, .invokevirtual 14123, .ret 0] 58 loc stk M) : Wq 70 cd_70 post 58 loc stk M := prefB_run ck_70 _ 58 (by decide +kernel) h
end
/-! StaticKernelModel.schedule()I -/
set_option maxRecDepth 100000 in
theorem ck_71 : chkM (mt 71) cd_71 = true := by decide +kernel
section
variable {post : Option AV → AMem → Prop} {loc : Lc} {stk : List AV} {M : AMem}
theorem b_71_0 (h : wpl (Wq 71 cd_71 post) post [.aload 0, .iconst 0, .putfield 4400, .aload 0, .iconst 4, .iconst 0, .invokevirtual 11579, .istore 1, .iload 1, .ifCond .ne 14, .aload 0, .iconst 4, .invokevirtual 17195, .istore 1, .aload 0, .invokevirtual 15387, .istore 2, .iload 1, .ifCond .ne 48, .iload 2, .iconst (-1), .if_icmp .eq 48, .aload 0, .invokevirtual 12315, .istore 3, .aload 0, .getfield 671169745423, .iload 2, .iaload, .aload 0, .getfield 80596996535, .aload 0, .getfield 671168107015, .iload 3, .iaload, .iaload, .if_icmp .le 48, .aload 0, .getfield 671384375851, .iload 3, .iconst 0, .bastore, .aload 0, .iload 3, .invokevirtual 16171, .aload 0, .iload 2, .invokevirtual 15915, .aload 0, .iload 1, .invokevirtual 14123, .ret 0] 0 loc stk M) : Wq 71 cd_71 post 0 loc stk M := prefB_run ck_71 _ 0 (by decide +kernel) h
theorem b_71_14 (h : wpl (Wq 71 cd_71 post) post [.aload 0, .invokevirtual 15387, .istore 2, .iload 1, .ifCond .ne 48, .iload 2, .iconst (-1), .if_icmp .eq 48, .aload 0, .invokevirtual 12315, .istore 3, .aload 0, .getfield 671169745423, .iload 2, .iaload, .aload 0, .getfield 80596996535, .aload 0, .getfield 671168107015, .iload 3, .iaload, .iaload, .if_icmp .le 48, .aload 0, .getfield 671384375851, .iload 3, .iconst 0, .bastore, .aload 0, .iload 3, .invokevirtual 16171, .aload 0, .iload 2, .invokevirtual 15915, .aload 0, .iload 1, .invokevirtual 14123, .ret 0] 14 loc stk M) : Wq 71 cd_71 post 14 loc stk M := prefB_run ck_71 _ 14 (by decide +kernel) h
theorem b_71_48 (h : wpl (Wq 71 cd_71 post) post [.aload 0, .iload 1, .invokevirtual 14123, .ret 0] 48 loc stk M) : Wq 71 cd_71 post 48 loc stk M := prefB_run ck_71 _ 48 (by decide +kernel) h
end
/-! StaticKernelModel.take(I)I -/
set_option maxRecDepth 100000 in
theorem ck_72 : chkM (mt 72) cd_72 = true := by decide +kernel
section
variable {post : Option AV → AMem → Prop} {loc : Lc} {stk : List AV} {M : AMem}
theorem b_72_0 (h : wpl (Wq 72 cd_72 post) post [.aload 0, .iconst 0, .putfield 4400, .aload 0, .iconst 5, .iconst 0, .invokevirtual 11579, .istore 2, .iload 2, .ifCond .ne 20, .aload 0, .iload 1, .invokevirtual 18731, .ifCond .ne 20, .aload 0, .iconst 5, .iconst 3, .invokevirtual 12603, .istore 2, .goto 62] 0 loc stk M) : Wq 72 cd_72 post 0 loc stk M := prefB_run ck_72 _ 0 (by decide +kernel) h
theorem b_72_20 (h : wpl (Wq 72 cd_72 post) post [.iload 2, .ifCond .ne 42, .aload 0, .getfield 53771473443, .iload 1, .iaload, .ifCond .ne 36, .aload 0, .aload 0, .invokevirtual 11803, .invokevirtual 14891, .aload 0, .getfield 53750174119, .iload 1, .iaload, .if_icmp .le 42, .aload 0, .iconst 5, .iconst 1, .invokevirtual 12603, .istore 2, .goto 62] 20 loc stk M) : Wq 72 cd_72 post 20 loc stk M := prefB_run ck_72 _ 20 (by decide +kernel) h
theorem b_72_36 (h : wpl (Wq 72 cd_72 post) post [.aload 0, .iconst 5, .iconst 1, .invokevirtual 12603, .istore 2, .goto 62] 36 loc stk M) : Wq 72 cd_72 post 36 loc stk M := prefB_run ck_72 _ 36 (by decide +kernel) h
theorem b_72_42 (h : wpl (Wq 72 cd_72 post) post [.iload 2, .ifCond .ne 62, .aload 0, .getfield 53771473443, .iload 1, .aload 0, .invokevirtual 11803, .iastore, .aload 0, .dup, .getfield 4634, .ldc2_w 1, .ladd, .putfield 4634, .aload 0, .getfield 54191723047, .iload 1, .aload 0, .getfield 4634, .lastore, .aload 0, .iload 2, .invokevirtual 14123, .ret 0] 42 loc stk M) : Wq 72 cd_72 post 42 loc stk M := prefB_run ck_72 _ 42 (by decide +kernel) h
theorem b_72_62 (h : wpl (Wq 72 cd_72 post) post [.aload 0, .iload 2, .invokevirtual 14123, .ret 0] 62 loc stk M) : Wq 72 cd_72 post 62 loc stk M := prefB_run ck_72 _ 62 (by decide +kernel) h
end
/-! StaticKernelModel.isResource(I)Z -/
set_option maxRecDepth 100000 in
theorem ck_73 : chkM (mt 73) cd_73 = true := by decide +kernel
section
variable {post : Option AV → AMem → Prop} {loc : Lc} {stk : List AV} {M : AMem}
theorem b_73_0 (h : wpl (Wq 73 cd_73 post) post [.iload 1, .ifCond .lt 14, .iload 1, .aload 0, .iconst 2, .invokevirtual 10283, .if_icmp .ge 14, .aload 0, .getfield 53958250911, .iload 1, .baload, .ifCond .ne 14, .iconst 1, .goto 15] 0 loc stk M) : Wq 73 cd_73 post 0 loc stk M := prefB_run ck_73 _ 0 (by decide +kernel) h
theorem b_73_14 (h : wpl (Wq 73 cd_73 post) post [.iconst 0, .ret 1] 14 loc stk M) : Wq 73 cd_73 post 14 loc stk M := prefB_run ck_73 _ 14 (by decide +kernel) h
theorem b_73_15 (h : wpl (Wq 73 cd_73 post) post [.ret 1] 15 loc stk M) : Wq 73 cd_73 post 15 loc stk M := prefB_run ck_73 _ 15 (by decide +kernel) h
end
/-! StaticKernelModel.give(I)I -/
set_option maxRecDepth 100000 in
theorem ck_74 : chkM (mt 74) cd_74 = true := by decide +kernel
section
variable {post : Option AV → AMem → Prop} {loc : Lc} {stk : List AV} {M : AMem}
theorem b_74_0 (h : wpl (Wq 74 cd_74 post) post [.aload 0, .iconst 0, .putfield 4400, .aload 0, .iconst 6, .iconst 0, .invokevirtual 11579, .istore 2, .iload 2, .ifCond .ne 20, .aload 0, .iload 1, .invokevirtual 18731, .ifCond .ne 20, .aload 0, .iconst 6, .iconst 3, .invokevirtual 12603, .istore 2, .goto 41] 0 loc stk M) : Wq 74 cd_74 post 0 loc stk M := prefB_run ck_74 _ 0 (by decide +kernel) h
theorem b_74_20 (h : wpl (Wq 74 cd_74 post) post [.iload 2, .ifCond .ne 34, .aload 0, .aload 0, .invokevirtual 11803, .invokevirtual 19243, .iload 1, .if_icmp .eq 34, .aload 0, .iconst 6, .iconst 5, .invokevirtual 12603, .istore 2, .goto 41] 20 loc stk M) : Wq 74 cd_74 post 20 loc stk M := prefB_run ck_74 _ 20 (by decide +kernel) h
theorem b_74_34 (h : wpl (Wq 74 cd_74 post) post [.iload 2, .ifCond .ne 41, .aload 0, .getfield 53771473443, .iload 1, .iconst 0, .iastore, .aload 0, .iload 2, .invokevirtual 14123, .ret 0] 34 loc stk M) : Wq 74 cd_74 post 34 loc stk M := prefB_run ck_74 _ 34 (by decide +kernel) h
theorem b_74_41 (h : wpl (Wq 74 cd_74 post) post [.aload 0, .iload 2, .invokevirtual 14123, .ret 0] 41 loc stk M) : Wq 74 cd_74 post 41 loc stk M := prefB_run ck_74 _ 41 (by decide +kernel) h
end
/-! StaticKernelModel.latestOf(I)I -/
set_option maxRecDepth 100000 in
theorem ck_75 : chkM (mt 75) cd_75 = true := by decide +kernel
section
variable {post : Option AV → AMem → Prop} {loc : Lc} {stk : List AV} {M : AMem}
theorem b_75_0 (h : wpl (Wq 75 cd_75 post) post [.iconst (-1), .istore 2, .iconst 0, .istore 3] 0 loc stk M) : Wq 75 cd_75 post 0 loc stk M := prefB_run ck_75 _ 0 (by decide +kernel) h
theorem b_75_4 (h : wpl (Wq 75 cd_75 post) post [.iload 3, .aload 0, .iconst 2, .invokevirtual 10283, .if_icmp .ge 32, .aload 0, .getfield 53771473443, .iload 3, .iaload, .iload 1, .if_icmp .ne 30, .iload 2, .iconst (-1), .if_icmp .eq 28, .aload 0, .getfield 54191723047, .iload 3, .laload, .aload 0, .getfield 54191723047, .iload 2, .laload, .lcmp, .ifCond .le 30, .iload 3, .istore 2, .iinc 3 1, .goto 4] 4 loc stk M) : Wq 75 cd_75 post 4 loc stk M := prefB_run ck_75 _ 4 (by decide +kernel) h
theorem b_75_28 (h : wpl (Wq 75 cd_75 post) post [.iload 3, .istore 2, .iinc 3 1, .goto 4] 28 loc stk M) : Wq 75 cd_75 post 28 loc stk M := prefB_run ck_75 _ 28 (by decide +kernel) h
theorem b_75_30 (h : wpl (Wq 75 cd_75 post) post [.iinc 3 1, .goto 4] 30 loc stk M) : Wq 75 cd_75 post 30 loc stk M := prefB_run ck_75 _ 30 (by decide +kernel) h
theorem b_75_32 (h : wpl (Wq 75 cd_75 post) post [.iload 2, .ret 0] 32 loc stk M) : Wq 75 cd_75 post 32 loc stk M := prefB_run ck_75 _ 32 (by decide +kernel) h
end
/-! StaticKernelModel.signal(II)I -/
set_option maxRecDepth 100000 in
theorem ck_76 : chkM (mt 76) cd_76 = true := by decide +kernel
section
variable {post : Option AV → AMem → Prop} {loc : Lc} {stk : List AV} {M : AMem}
theorem b_76_0 (h : wpl (Wq 76 cd_76 post) post [.aload 0, .iconst 0, .putfield 4400, .aload 0, .iconst 7, .iconst 0, .invokevirtual 11579, .istore 3, .iload 3, .ifCond .ne 26, .aload 0, .iload 1, .invokevirtual 19755, .istore 3, .iload 3, .ifCond .le 22, .aload 0, .iconst 7, .iload 3, .invokevirtual 12603, .istore 3, .goto 26] 0 loc stk M) : Wq 76 cd_76 post 0 loc stk M := prefB_run ck_76 _ 0 (by decide +kernel) h
theorem b_76_22 (h : wpl (Wq 76 cd_76 post) post [.aload 0, .iload 1, .iload 2, .invokevirtual 20027, .aload 0, .iload 3, .invokevirtual 14123, .ret 0] 22 loc stk M) : Wq 76 cd_76 post 22 loc stk M := prefB_run ck_76 _ 22 (by decide +kernel) h
theorem b_76_26 (h : wpl (Wq 76 cd_76 post) post [.aload 0, .iload 3, .invokevirtual 14123, .ret 0] 26 loc stk M) : Wq 76 cd_76 post 26 loc stk M := prefB_run ck_76 _ 26 (by decide +kernel) h
end
/-! StaticKernelModel.ofEvents(I)I -/
set_option maxRecDepth 100000 in
theorem ck_77 : chkM (mt 77) cd_77 = true := by decide +kernel
section
variable {post : Option AV → AMem → Prop} {loc : Lc} {stk : List AV} {M : AMem}
theorem b_77_0 (h : wpl (Wq 77 cd_77 post) post [.aload 0, .iload 1, .invokevirtual 13099, .ifCond .ne 6, .iconst 3, .goto 20] 0 loc stk M) : Wq 77 cd_77 post 0 loc stk M := prefB_run ck_77 _ 0 (by decide +kernel) h
theorem b_77_6 (h : wpl (Wq 77 cd_77 post) post [.aload 0, .getfield 80599454147, .iload 1, .iaload, .ifCond .ne 13, .iconst 1, .goto 20] 6 loc stk M) : Wq 77 cd_77 post 6 loc stk M := prefB_run ck_77 _ 6 (by decide +kernel) h
theorem b_77_13 (h : wpl (Wq 77 cd_77 post) post [.aload 0, .iload 1, .invokevirtual 13355, .ifCond .ne 19, .iconst 7, .goto 20] 13 loc stk M) : Wq 77 cd_77 post 13 loc stk M := prefB_run ck_77 _ 13 (by decide +kernel) h
theorem b_77_19 (h : wpl (Wq 77 cd_77 post) post [.iconst 0, .ret 0] 19 loc stk M) : Wq 77 cd_77 post 19 loc stk M := prefB_run ck_77 _ 19 (by decide +kernel) h
theorem b_77_20 (h : wpl (Wq 77 cd_77 post) post [.ret 0] 20 loc stk M) : Wq 77 cd_77 post 20 loc stk M := prefB_run ck_77 _ 20 (by decide +kernel) h
end
/-! StaticKernelModel.sets(II)V -/
set_option maxRecDepth 100000 in
theorem ck_78 : chkM (mt 78) cd_78 = true := by decide +kernel
section
variable {post : Option AV → AMem → Prop} {loc : Lc} {stk : List AV} {M : AMem}
theorem b_78_0 (h : wpl (Wq 78 cd_78 post) post [.aload 0, .getfield 80614199839, .iload 1, .dup2, .iaload, .aload 0, .getfield 80599454147, .iload 1, .iaload, .iload 2, .iand, .ior, .iastore, .iconst 0, .istore 3] 0 loc stk M) : Wq 78 cd_78 post 0 loc stk M := prefB_run ck_78 _ 0 (by decide +kernel) h
theorem b_78_15 (h : wpl (Wq 78 cd_78 post) post [.iload 3, .iconst 400, .if_icmp .ge 45, .aload 0, .getfield 671168926219, .iload 3, .iaload, .iconst 3, .if_icmp .ne 43, .aload 0, .getfield 671168107015, .iload 3, .iaload, .iload 1, .if_icmp .ne 43, .aload 0, .getfield 671171383831, .iload 3, .iaload, .aload 0, .getfield 80614199839, .iload 1, .iaload, .iand, .ifCond .eq 43, .aload 0, .iload 3, .invokevirtual 13867, .iinc 3 1, .goto 15] 15 loc stk M) : Wq 78 cd_78 post 15 loc stk M := prefB_run ck_78 _ 15 (by decide +kernel) h
theorem b_78_43 (h : wpl (Wq 78 cd_78 post) post [.iinc 3 1, .goto 15] 43 loc stk M) : Wq 78 cd_78 post 43 loc stk M := prefB_run ck_78 _ 43 (by decide +kernel) h
theorem b_78_45 (h : wpl (Wq 78 cd_78 post) post [.return_] 45 loc stk M) : Wq 78 cd_78 post 45 loc stk M := prefB_run ck_78 _ 45 (by decide +kernel) h
end
/-! StaticKernelModel.clear(I)I -/
set_option maxRecDepth 100000 in
theorem ck_79 : chkM (mt 79) cd_79 = true := by decide +kernel
section
variable {post : Option AV → AMem → Prop} {loc : Lc} {stk : List AV} {M : AMem}
theorem b_79_0 (h : wpl (Wq 79 cd_79 post) post [.aload 0, .iconst 0, .putfield 4400, .aload 0, .iconst 8, .iconst 0, .invokevirtual 11579, .istore 2, .iload 2, .ifCond .ne 19, .aload 0, .getfield 4660, .ifCond .le 19, .aload 0, .iconst 8, .iconst 2, .invokevirtual 12603, .istore 2, .goto 52] 0 loc stk M) : Wq 79 cd_79 post 0 loc stk M := prefB_run ck_79 _ 0 (by decide +kernel) h
theorem b_79_19 (h : wpl (Wq 79 cd_79 post) post [.iload 2, .ifCond .ne 36, .aload 0, .getfield 80599454147, .aload 0, .getfield 671168107015, .aload 0, .invokevirtual 12315, .iaload, .iaload, .ifCond .ne 36, .aload 0, .iconst 8, .iconst 1, .invokevirtual 12603, .istore 2, .goto 52] 19 loc stk M) : Wq 79 cd_79 post 19 loc stk M := prefB_run ck_79 _ 19 (by decide +kernel) h
theorem b_79_36 (h : wpl (Wq 79 cd_79 post) post [.iload 2, .ifCond .ne 52, .aload 0, .getfield 80614199839, .aload 0, .getfield 671168107015, .aload 0, .invokevirtual 12315, .iaload, .dup2, .iaload, .iload 1, .iconst (-1), .ixor, .iand, .iastore, .aload 0, .iload 2, .invokevirtual 14123, .ret 0] 36 loc stk M) : Wq 79 cd_79 post 36 loc stk M := prefB_run ck_79 _ 36 (by decide +kernel) h
theorem b_79_52 (h : wpl (Wq 79 cd_79 post) post [.aload 0, .iload 2, .invokevirtual 14123, .ret 0] 52 loc stk M) : Wq 79 cd_79 post 52 loc stk M := prefB_run ck_79 _ 52 (by decide +kernel) h
end
/-! StaticKernelModel.await(I)I -/
set_option maxRecDepth 100000 in
theorem ck_80 : chkM (mt 80) cd_80 = true := by decide +kernel
section
variable {post : Option AV → AMem → Prop} {loc : Lc} {stk : List AV} {M : AMem}
theorem b_80_0 (h : wpl (Wq 80 cd_80 post) post [.aload 0, .iconst 0, .putfield 4400, .aload 0, .iconst 9, .iconst 0, .invokevirtual 11579, .istore 2, .aload 0, .invokevirtual 12315, .istore 3, .iload 2, .ifCond .ne 22, .aload 0, .getfield 4660, .ifCond .le 22, .aload 0, .iconst 9, .iconst 2, .invokevirtual 12603, .istore 2, .goto 86] 0 loc stk M) : Wq 80 cd_80 post 0 loc stk M := prefB_run ck_80 _ 0 (by decide +kernel) h
theorem b_80_22 (h : wpl (Wq 80 cd_80 post) post [.iload 2, .ifCond .ne 38, .aload 0, .getfield 80599454147, .aload 0, .getfield 671168107015, .iload 3, .iaload, .iaload, .ifCond .ne 38, .aload 0, .iconst 9, .iconst 1, .invokevirtual 12603, .istore 2, .goto 86] 22 loc stk M) : Wq 80 cd_80 post 22 loc stk M := prefB_run ck_80 _ 22 (by decide +kernel) h
theorem b_80_38 (h : wpl (Wq 80 cd_80 post) post [.iload 2, .ifCond .ne 52, .aload 0, .iconst 1, .iload 3, .iadd, .invokevirtual 17451, .ifCond .eq 52, .aload 0, .iconst 9, .iconst 6, .invokevirtual 12603, .istore 2, .goto 86] 38 loc stk M) : Wq 80 cd_80 post 38 loc stk M := prefB_run ck_80 _ 38 (by decide +kernel) h
theorem b_80_52 (h : wpl (Wq 80 cd_80 post) post [.iload 2, .ifCond .ne 86, .aload 0, .getfield 80614199839, .aload 0, .getfield 671168107015, .iload 3, .iaload, .iaload, .iload 1, .iand, .ifCond .ne 86, .aload 0, .getfield 671171383831, .iload 3, .aload 0, .getfield 80599454147, .aload 0, .getfield 671168107015, .iload 3, .iaload, .iaload, .iload 1, .iand, .iastore, .aload 0, .getfield 671384375851, .iload 3, .iconst 0, .bastore, .aload 0, .iload 3, .iconst 3, .invokevirtual 16443, .aload 0, .iload 2, .invokevirtual 14123, .ret 0] 52 loc stk M) : Wq 80 cd_80 post 52 loc stk M := prefB_run ck_80 _ 52 (by decide +kernel) h
theorem b_80_86 (h : wpl (Wq 80 cd_80 post) post [.aload 0, .iload 2, .invokevirtual 14123, .ret 0] 86 loc stk M) : Wq 80 cd_80 post 86 loc stk M := prefB_run ck_80 _ 86 (by decide +kernel) h
end
/-! StaticKernelModel.given(I)J -/
set_option maxRecDepth 100000 in
theorem ck_81 : chkM (mt 81) cd_81 = true := by decide +kernel
section
variable {post : Option AV → AMem → Prop} {loc : Lc} {stk : List AV} {M : AMem}
theorem b_81_0 (h : wpl (Wq 81 cd_81 post) post [.aload 0, .iconst 0, .putfield 4400, .aload 0, .iconst 10, .iconst 0, .invokevirtual 11579, .istore 2, .iload 2, .ifCond .ne 21, .aload 0, .iload 1, .invokevirtual 19755, .istore 2, .iload 2, .ifCond .le 21, .aload 0, .iconst 10, .iload 2, .invokevirtual 12603, .istore 2, .aload 0, .iload 2, .invokevirtual 14123, .istore 3, .iload 2, .ifCond .le 31, .iload 2, .ineg, .i2l, .goto 38] 0 loc stk M) : Wq 81 cd_81 post 0 loc stk M := prefB_run ck_81 _ 0 (by decide +kernel) h
theorem b_81_21 (h : wpl (Wq 81 cd_81 post) post [.aload 0, .iload 2, .invokevirtual 14123, .istore 3, .iload 2, .ifCond .le 31, .iload 2, .ineg, .i2l, .goto 38] 21 loc stk M) : Wq 81 cd_81 post 21 loc stk M := prefB_run ck_81 _ 21 (by decide +kernel) h
theorem b_81_31 (h : wpl (Wq 81 cd_81 post) post [.aload 0, .getfield 80614199839, .iload 1, .iaload, .i2l, .ldc2_w 4294967295, .land, .lreturn] 31 loc stk M) : Wq 81 cd_81 post 31 loc stk M := prefB_run ck_81 _ 31 (by decide +kernel) h
theorem b_81_38 (h : wpl (Wq 81 cd_81 post) post [.lreturn] 38 loc stk M) : Wq 81 cd_81 post 38 loc stk M := prefB_run ck_81 _ 38 (by decide +kernel) h
end
/-! StaticKernelModel.after(III)I -/
set_option maxRecDepth 100000 in
theorem ck_82 : chkM (mt 82) cd_82 = true := by decide +kernel
section
variable {post : Option AV → AMem → Prop} {loc : Lc} {stk : List AV} {M : AMem}
theorem b_82_0 (h : wpl (Wq 82 cd_82 post) post [.aload 0, .iconst 0, .putfield 4400, .aload 0, .iconst 11, .iconst 0, .invokevirtual 11579, .istore 4, .iload 4, .ifCond .ne 20, .aload 0, .iload 1, .invokevirtual 21291, .ifCond .ne 20, .aload 0, .iconst 11, .iconst 3, .invokevirtual 12603, .istore 4, .goto 71] 0 loc stk M) : Wq 82 cd_82 post 0 loc stk M := prefB_run ck_82 _ 0 (by decide +kernel) h
theorem b_82_20 (h : wpl (Wq 82 cd_82 post) post [.iload 4, .ifCond .ne 33, .aload 0, .getfield 80831287879, .iload 1, .baload, .ifCond .eq 33, .aload 0, .iconst 11, .iconst 7, .invokevirtual 12603, .istore 4, .goto 71] 20 loc stk M) : Wq 82 cd_82 post 20 loc stk M := prefB_run ck_82 _ 20 (by decide +kernel) h
theorem b_82_33 (h : wpl (Wq 82 cd_82 post) post [.iload 4, .ifCond .ne 58, .iload 2, .iconst 1, .if_icmp .lt 52, .iload 2, .aload 0, .getfield 26907447723, .aload 0, .getfield 80603550167, .iload 1, .iaload, .iaload, .if_icmp .gt 52, .aload 0, .iload 1, .iload 3, .invokevirtual 21563, .ifCond .ne 58, .aload 0, .iconst 11, .iconst 8, .invokevirtual 12603, .istore 4, .goto 71] 33 loc stk M) : Wq 82 cd_82 post 33 loc stk M := prefB_run ck_82 _ 33 (by decide +kernel) h
theorem b_82_52 (h : wpl (Wq 82 cd_82 post) post [.aload 0, .iconst 11, .iconst 8, .invokevirtual 12603, .istore 4, .goto 71] 52 loc stk M) : Wq 82 cd_82 post 52 loc stk M := prefB_run ck_82 _ 52 (by decide +kernel) h
theorem b_82_58 (h : wpl (Wq 82 cd_82 post) post [.iload 4, .ifCond .ne 71, .aload 0, .iload 1, .aload 0, .aload 0, .getfield 80603550167, .iload 1, .iaload, .iload 2, .invokevirtual 21819, .iload 3, .invokevirtual 22091, .aload 0, .iload 4, .invokevirtual 14123, .ret 0] 58 loc stk M) : Wq 82 cd_82 post 58 loc stk M := prefB_run ck_82 _ 58 (by decide +kernel) h
theorem b_82_71 (h : wpl (Wq 82 cd_82 post) post [.aload 0, .iload 4, .invokevirtual 14123, .ret 0] 71 loc stk M) : Wq 82 cd_82 post 71 loc stk M := prefB_run ck_82 _ 71 (by decide +kernel) h
end
/-! StaticKernelModel.isAlarm(I)Z -/
set_option maxRecDepth 100000 in
theorem ck_83 : chkM (mt 83) cd_83 = true := by decide +kernel
section
variable {post : Option AV → AMem → Prop} {loc : Lc} {stk : List AV} {M : AMem}
theorem b_83_0 (h : wpl (Wq 83 cd_83 post) post [.iload 1, .ifCond .lt 10, .iload 1, .aload 0, .getfield 11803038099, .iconst 6, .iaload, .if_icmp .ge 10, .iconst 1, .goto 11] 0 loc stk M) : Wq 83 cd_83 post 0 loc stk M := prefB_run ck_83 _ 0 (by decide +kernel) h
theorem b_83_10 (h : wpl (Wq 83 cd_83 post) post [.iconst 0, .ret 1] 10 loc stk M) : Wq 83 cd_83 post 10 loc stk M := prefB_run ck_83 _ 10 (by decide +kernel) h
theorem b_83_11 (h : wpl (Wq 83 cd_83 post) post [.ret 1] 11 loc stk M) : Wq 83 cd_83 post 11 loc stk M := prefB_run ck_83 _ 11 (by decide +kernel) h
end
/-! StaticKernelModel.isEvery(II)Z -/
set_option maxRecDepth 100000 in
theorem ck_84 : chkM (mt 84) cd_84 = true := by decide +kernel
section
variable {post : Option AV → AMem → Prop} {loc : Lc} {stk : List AV} {M : AMem}
theorem b_84_0 (h : wpl (Wq 84 cd_84 post) post [.aload 0, .getfield 80603550167, .iload 1, .iaload, .istore 3, .iload 2, .ifCond .eq 19, .iload 2, .aload 0, .getfield 26909086131, .iload 3, .iaload, .if_icmp .lt 21, .iload 2, .aload 0, .getfield 26907447723, .iload 3, .iaload, .if_icmp .gt 21, .iconst 1, .goto 22] 0 loc stk M) : Wq 84 cd_84 post 0 loc stk M := prefB_run ck_84 _ 0 (by decide +kernel) h
theorem b_84_19 (h : wpl (Wq 84 cd_84 post) post [.iconst 1, .goto 22] 19 loc stk M) : Wq 84 cd_84 post 19 loc stk M := prefB_run ck_84 _ 19 (by decide +kernel) h
theorem b_84_21 (h : wpl (Wq 84 cd_84 post) post [.iconst 0, .ret 1] 21 loc stk M) : Wq 84 cd_84 post 21 loc stk M := prefB_run ck_84 _ 21 (by decide +kernel) h
theorem b_84_22 (h : wpl (Wq 84 cd_84 post) post [.ret 1] 22 loc stk M) : Wq 84 cd_84 post 22 loc stk M := prefB_run ck_84 _ 22 (by decide +kernel) h
end
/-! StaticKernelModel.behind(II)I -/
set_option maxRecDepth 100000 in
theorem ck_85 : chkM (mt 85) cd_85 = true := by decide +kernel
section
variable {post : Option AV → AMem → Prop} {loc : Lc} {stk : List AV} {M : AMem}
theorem b_85_0 (h : wpl (Wq 85 cd_85 post) post [.aload 0, .getfield 26932023867, .iload 1, .iaload, .i2l, .iload 2, .i2l, .ladd, .aload 0, .getfield 26907447723, .iload 1, .iaload, .i2l, .ldc2_w 1, .ladd, .lrem, .l2i, .ret 0] 0 loc stk M) : Wq 85 cd_85 post 0 loc stk M := prefB_run ck_85 _ 0 (by decide +kernel) h
end
/-! StaticKernelModel.begins(III)V -/
set_option maxRecDepth 100000 in
theorem ck_86 : chkM (mt 86) cd_86 = true := by decide +kernel
section
variable {post : Option AV → AMem → Prop} {loc : Lc} {stk : List AV} {M : AMem}
theorem b_86_0 (h : wpl (Wq 86 cd_86 post) post [.aload 0, .getfield 80831287879, .iload 1, .iconst 1, .bastore, .aload 0, .getfield 80622391883, .iload 1, .iload 2, .iastore, .aload 0, .getfield 80623211087, .iload 1, .iload 3, .iastore, .return_] 0 loc stk M) : Wq 86 cd_86 post 0 loc stk M := prefB_run ck_86 _ 0 (by decide +kernel) h
end
/-! StaticKernelModel.at(III)I -/
set_option maxRecDepth 100000 in
theorem ck_87 : chkM (mt 87) cd_87 = true := by decide +kernel
section
variable {post : Option AV → AMem → Prop} {loc : Lc} {stk : List AV} {M : AMem}
theorem b_87_0 (h : wpl (Wq 87 cd_87 post) post [.aload 0, .iconst 0, .putfield 4400, .aload 0, .iconst 12, .iconst 0, .invokevirtual 11579, .istore 4, .iload 4, .ifCond .ne 20, .aload 0, .iload 1, .invokevirtual 21291, .ifCond .ne 20, .aload 0, .iconst 12, .iconst 3, .invokevirtual 12603, .istore 4, .goto 64] 0 loc stk M) : Wq 87 cd_87 post 0 loc stk M := prefB_run ck_87 _ 0 (by decide +kernel) h
theorem b_87_20 (h : wpl (Wq 87 cd_87 post) post [.iload 4, .ifCond .ne 33, .aload 0, .getfield 80831287879, .iload 1, .baload, .ifCond .eq 33, .aload 0, .iconst 12, .iconst 7, .invokevirtual 12603, .istore 4, .goto 64] 20 loc stk M) : Wq 87 cd_87 post 20 loc stk M := prefB_run ck_87 _ 20 (by decide +kernel) h
theorem b_87_33 (h : wpl (Wq 87 cd_87 post) post [.iload 4, .ifCond .ne 57, .iload 2, .ifCond .lt 51, .iload 2, .aload 0, .getfield 26907447723, .aload 0, .getfield 80603550167, .iload 1, .iaload, .iaload, .if_icmp .gt 51, .aload 0, .iload 1, .iload 3, .invokevirtual 21563, .ifCond .ne 57, .aload 0, .iconst 12, .iconst 8, .invokevirtual 12603, .istore 4, .goto 64] 33 loc stk M) : Wq 87 cd_87 post 33 loc stk M := prefB_run ck_87 _ 33 (by decide +kernel) h
theorem b_87_51 (h : wpl (Wq 87 cd_87 post) post [.aload 0, .iconst 12, .iconst 8, .invokevirtual 12603, .istore 4, .goto 64] 51 loc stk M) : Wq 87 cd_87 post 51 loc stk M := prefB_run ck_87 _ 51 (by decide +kernel) h
theorem b_87_57 (h : wpl (Wq 87 cd_87 post) post [.iload 4, .ifCond .ne 64, .aload 0, .iload 1, .iload 2, .iload 3, .invokevirtual 22091, .aload 0, .iload 4, .invokevirtual 14123, .ret 0] 57 loc stk M) : Wq 87 cd_87 post 57 loc stk M := prefB_run ck_87 _ 57 (by decide +kernel) h
theorem b_87_64 (h : wpl (Wq 87 cd_87 post) post [.aload 0, .iload 4, .invokevirtual 14123, .ret 0] 64 loc stk M) : Wq 87 cd_87 post 64 loc stk M := prefB_run ck_87 _ 64 (by decide +kernel) h
end
/-! StaticKernelModel.cancel(I)I -/
set_option maxRecDepth 100000 in
theorem ck_88 : chkM (mt 88) cd_88 = true := by decide +kernel
section
variable {post : Option AV → AMem → Prop} {loc : Lc} {stk : List AV} {M : AMem}
theorem b_88_0 (h : wpl (Wq 88 cd_88 post) post [.aload 0, .iconst 0, .putfield 4400, .aload 0, .iconst 13, .iconst 0, .invokevirtual 11579, .istore 2, .iload 2, .ifCond .ne 20, .aload 0, .iload 1, .invokevirtual 21291, .ifCond .ne 20, .aload 0, .iconst 13, .iconst 3, .invokevirtual 12603, .istore 2, .goto 40] 0 loc stk M) : Wq 88 cd_88 post 0 loc stk M := prefB_run ck_88 _ 0 (by decide +kernel) h
theorem b_88_20 (h : wpl (Wq 88 cd_88 post) post [.iload 2, .ifCond .ne 33, .aload 0, .getfield 80831287879, .iload 1, .baload, .ifCond .ne 33, .aload 0, .iconst 13, .iconst 5, .invokevirtual 12603, .istore 2, .goto 40] 20 loc stk M) : Wq 88 cd_88 post 20 loc stk M := prefB_run ck_88 _ 20 (by decide +kernel) h
theorem b_88_33 (h : wpl (Wq 88 cd_88 post) post [.iload 2, .ifCond .ne 40, .aload 0, .getfield 80831287879, .iload 1, .iconst 0, .bastore, .aload 0, .iload 2, .invokevirtual 14123, .ret 0] 33 loc stk M) : Wq 88 cd_88 post 33 loc stk M := prefB_run ck_88 _ 33 (by decide +kernel) h
theorem b_88_40 (h : wpl (Wq 88 cd_88 post) post [.aload 0, .iload 2, .invokevirtual 14123, .ret 0] 40 loc stk M) : Wq 88 cd_88 post 40 loc stk M := prefB_run ck_88 _ 40 (by decide +kernel) h
end
/-! StaticKernelModel.left(I)I -/
set_option maxRecDepth 100000 in
theorem ck_89 : chkM (mt 89) cd_89 = true := by decide +kernel
section
variable {post : Option AV → AMem → Prop} {loc : Lc} {stk : List AV} {M : AMem}
theorem b_89_0 (h : wpl (Wq 89 cd_89 post) post [.aload 0, .iconst 0, .putfield 4400, .aload 0, .iconst 14, .iconst 0, .invokevirtual 11579, .istore 2, .iload 2, .ifCond .ne 20, .aload 0, .iload 1, .invokevirtual 21291, .ifCond .ne 20, .aload 0, .iconst 14, .iconst 3, .invokevirtual 12603, .istore 2, .goto 32] 0 loc stk M) : Wq 89 cd_89 post 0 loc stk M := prefB_run ck_89 _ 0 (by decide +kernel) h
theorem b_89_20 (h : wpl (Wq 89 cd_89 post) post [.iload 2, .ifCond .ne 32, .aload 0, .getfield 80831287879, .iload 1, .baload, .ifCond .ne 32, .aload 0, .iconst 14, .iconst 5, .invokevirtual 12603, .istore 2, .aload 0, .iload 2, .invokevirtual 14123, .istore 3, .iload 2, .ifCond .le 41, .iload 2, .ineg, .goto 44] 20 loc stk M) : Wq 89 cd_89 post 20 loc stk M := prefB_run ck_89 _ 20 (by decide +kernel) h
theorem b_89_32 (h : wpl (Wq 89 cd_89 post) post [.aload 0, .iload 2, .invokevirtual 14123, .istore 3, .iload 2, .ifCond .le 41, .iload 2, .ineg, .goto 44] 32 loc stk M) : Wq 89 cd_89 post 32 loc stk M := prefB_run ck_89 _ 32 (by decide +kernel) h
theorem b_89_41 (h : wpl (Wq 89 cd_89 post) post [.aload 0, .iload 1, .invokevirtual 23083, .ret 0] 41 loc stk M) : Wq 89 cd_89 post 41 loc stk M := prefB_run ck_89 _ 41 (by decide +kernel) h
theorem b_89_44 (h : wpl (Wq 89 cd_89 post) post [.ret 0] 44 loc stk M) : Wq 89 cd_89 post 44 loc stk M := prefB_run ck_89 _ 44 (by decide +kernel) h
end
/-! StaticKernelModel.stepsTo(I)I -/
set_option maxRecDepth 100000 in
theorem ck_90 : chkM (mt 90) cd_90 = true := by decide +kernel
section
variable {post : Option AV → AMem → Prop} {loc : Lc} {stk : List AV} {M : AMem}
theorem b_90_0 (h : wpl (Wq 90 cd_90 post) post [.iconst 1, .istore 2, .aload 0, .aload 0, .getfield 80603550167, .iload 1, .iaload, .iconst 1, .invokevirtual 21819, .istore 3] 0 loc stk M) : Wq 90 cd_90 post 0 loc stk M := prefB_run ck_90 _ 0 (by decide +kernel) h
theorem b_90_10 (h : wpl (Wq 90 cd_90 post) post [.iload 3, .aload 0, .getfield 80622391883, .iload 1, .iaload, .if_icmp .eq 33, .iinc 2 1, .iload 3, .aload 0, .getfield 26907447723, .aload 0, .getfield 80603550167, .iload 1, .iaload, .iaload, .if_icmp .ne 28, .iconst 0, .goto 31] 10 loc stk M) : Wq 90 cd_90 post 10 loc stk M := prefB_run ck_90 _ 10 (by decide +kernel) h
theorem b_90_28 (h : wpl (Wq 90 cd_90 post) post [.iload 3, .iconst 1, .iadd, .istore 3, .goto 10] 28 loc stk M) : Wq 90 cd_90 post 28 loc stk M := prefB_run ck_90 _ 28 (by decide +kernel) h
theorem b_90_31 (h : wpl (Wq 90 cd_90 post) post [.istore 3, .goto 10] 31 loc stk M) : Wq 90 cd_90 post 31 loc stk M := prefB_run ck_90 _ 31 (by decide +kernel) h
theorem b_90_33 (h : wpl (Wq 90 cd_90 post) post [.iload 2, .ret 0] 33 loc stk M) : Wq 90 cd_90 post 33 loc stk M := prefB_run ck_90 _ 33 (by decide +kernel) h
end
/-! StaticKernelModel.shut()I -/
set_option maxRecDepth 100000 in
theorem ck_91 : chkM (mt 91) cd_91 = true := by decide +kernel
section
variable {post : Option AV → AMem → Prop} {loc : Lc} {stk : List AV} {M : AMem}
theorem b_91_0 (h : wpl (Wq 91 cd_91 post) post [.aload 0, .iconst 0, .putfield 4400, .aload 0, .iconst 15, .iconst 1, .invokevirtual 11579, .istore 1, .iload 1, .ifCond .ne 20, .aload 0, .getfield 4608, .iconst 100, .if_icmp .ne 20, .aload 0, .iconst 15, .iconst 4, .invokevirtual 12603, .istore 1, .goto 28] 0 loc stk M) : Wq 91 cd_91 post 0 loc stk M := prefB_run ck_91 _ 0 (by decide +kernel) h
theorem b_91_20 (h : wpl (Wq 91 cd_91 post) post [.iload 1, .ifCond .ne 28, .aload 0, .dup, .getfield 4608, .iconst 1, .iadd, .putfield 4608, .aload 0, .iload 1, .invokevirtual 14123, .ret 0] 20 loc stk M) : Wq 91 cd_91 post 20 loc stk M := prefB_run ck_91 _ 20 (by decide +kernel) h
theorem b_91_28 (h : wpl (Wq 91 cd_91 post) post [.aload 0, .iload 1, .invokevirtual 14123, .ret 0] 28 loc stk M) : Wq 91 cd_91 post 28 loc stk M := prefB_run ck_91 _ 28 (by decide +kernel) h
end
/-! StaticKernelModel.open()I -/
set_option maxRecDepth 100000 in
theorem ck_92 : chkM (mt 92) cd_92 = true := by decide +kernel
section
variable {post : Option AV → AMem → Prop} {loc : Lc} {stk : List AV} {M : AMem}
theorem b_92_0 (h : wpl (Wq 92 cd_92 post) post [.aload 0, .iconst 0, .putfield 4400, .aload 0, .iconst 16, .iconst 1, .invokevirtual 11579, .istore 1, .iload 1, .ifCond .ne 19, .aload 0, .getfield 4608, .ifCond .ne 19, .aload 0, .iconst 16, .iconst 5, .invokevirtual 12603, .istore 1, .goto 58] 0 loc stk M) : Wq 92 cd_92 post 0 loc stk M := prefB_run ck_92 _ 0 (by decide +kernel) h
theorem b_92_19 (h : wpl (Wq 92 cd_92 post) post [.iload 1, .ifCond .ne 58, .aload 0, .dup, .getfield 4608, .iconst 1, .isub, .putfield 4608, .iconst 0, .istore 2] 19 loc stk M) : Wq 92 cd_92 post 19 loc stk M := prefB_run ck_92 _ 19 (by decide +kernel) h
theorem b_92_29 (h : wpl (Wq 92 cd_92 post) post [.iload 2, .aload 0, .getfield 11803038099, .iconst 3, .iaload, .if_icmp .ge 58, .aload 0, .getfield 4608, .ifCond .ne 58] 29 loc stk M) : Wq 92 cd_92 post 29 loc stk M := prefB_run ck_92 _ 29 (by decide +kernel) h
theorem b_92_38 (h : wpl (Wq 92 cd_92 post) post [.aload 0, .getfield 26933662275, .iload 2, .iaload, .ifCond .le 56, .aload 0, .getfield 26933662275, .iload 2, .dup2, .iaload, .iconst 1, .isub, .iastore, .aload 0, .iload 2, .invokevirtual 23851, .istore 3, .goto 38] 38 loc stk M) : Wq 92 cd_92 post 38 loc stk M := prefB_run ck_92 _ 38 (by decide +kernel) h
theorem b_92_56 (h : wpl (Wq 92 cd_92 post) post [.iinc 2 1, .goto 29] 56 loc stk M) : Wq 92 cd_92 post 56 loc stk M := prefB_run ck_92 _ 56 (by decide +kernel) h
theorem b_92_58 (h : wpl (Wq 92 cd_92 post) post [.aload 0, .iload 1, .invokevirtual 14123, .ret 0] 58 loc stk M) : Wq 92 cd_92 post 58 loc stk M := prefB_run ck_92 _ 58 (by decide +kernel) h
end
/-! StaticKernelModel.ticked(I)I -/
set_option maxRecDepth 100000 in
theorem ck_93 : chkM (mt 93) cd_93 = true := by decide +kernel
section
variable {post : Option AV → AMem → Prop} {loc : Lc} {stk : List AV} {M : AMem}
theorem b_93_0 (h : wpl (Wq 93 cd_93 post) post [.iconst 0, .istore 2, .aload 0, .getfield 26932843071, .iload 1, .dup2, .iaload, .iconst 1, .iadd, .iastore, .aload 0, .getfield 26932843071, .iload 1, .iaload, .aload 0, .getfield 26908266927, .iload 1, .iaload, .if_icmp .ne 66, .aload 0, .getfield 26932843071, .iload 1, .iconst 0, .iastore, .aload 0, .getfield 26932023867, .iload 1, .aload 0, .iload 1, .iconst 1, .invokevirtual 21819, .iastore, .iconst 0, .istore 3] 0 loc stk M) : Wq 93 cd_93 post 0 loc stk M := prefB_run ck_93 _ 0 (by decide +kernel) h
theorem b_93_34 (h : wpl (Wq 93 cd_93 post) post [.iload 3, .aload 0, .getfield 11803038099, .iconst 6, .iaload, .if_icmp .ge 66, .aload 0, .getfield 80831287879, .iload 3, .baload, .ifCond .eq 64, .aload 0, .getfield 80603550167, .iload 3, .iaload, .iload 1, .if_icmp .ne 64, .aload 0, .getfield 80622391883, .iload 3, .iaload, .aload 0, .getfield 26932023867, .iload 1, .iaload, .if_icmp .ne 64, .iinc 2 1, .aload 0, .iload 3, .invokevirtual 24107, .iinc 3 1, .goto 34] 34 loc stk M) : Wq 93 cd_93 post 34 loc stk M := prefB_run ck_93 _ 34 (by decide +kernel) h
theorem b_93_64 (h : wpl (Wq 93 cd_93 post) post [.iinc 3 1, .goto 34] 64 loc stk M) : Wq 93 cd_93 post 64 loc stk M := prefB_run ck_93 _ 64 (by decide +kernel) h
theorem b_93_66 (h : wpl (Wq 93 cd_93 post) post [.aload 0, .invokevirtual 14363, .iload 2, .ret 0] 66 loc stk M) : Wq 93 cd_93 post 66 loc stk M := prefB_run ck_93 _ 66 (by decide +kernel) h
end
/-! StaticKernelModel.meets(I)V -/
set_option maxRecDepth 100000 in
theorem ck_94 : chkM (mt 94) cd_94 = true := by decide +kernel
section
variable {post : Option AV → AMem → Prop} {loc : Lc} {stk : List AV} {M : AMem}
theorem b_94_0 (h : wpl (Wq 94 cd_94 post) post [.aload 0, .getfield 80605188575, .iload 1, .iaload, .istore 2, .aload 0, .iconst 4, .iload 1, .invokevirtual 12859, .aload 0, .getfield 80604369371, .iload 1, .iaload, .ifCond .ne 31, .aload 0, .iload 2, .invokevirtual 13355, .aload 0, .getfield 80598634943, .iload 2, .iaload, .if_icmp .ne 27, .aload 0, .iconst 3, .iconst 2004, .invokevirtual 12859, .goto 55] 0 loc stk M) : Wq 94 cd_94 post 0 loc stk M := prefB_run ck_94 _ 0 (by decide +kernel) h
theorem b_94_27 (h : wpl (Wq 94 cd_94 post) post [.aload 0, .iload 2, .invokevirtual 13611, .goto 55] 27 loc stk M) : Wq 94 cd_94 post 27 loc stk M := prefB_run ck_94 _ 27 (by decide +kernel) h
theorem b_94_31 (h : wpl (Wq 94 cd_94 post) post [.aload 0, .getfield 80604369371, .iload 1, .iaload, .iconst 1, .if_icmp .ne 55, .aload 0, .iload 2, .invokevirtual 13355, .ifCond .ne 46, .aload 0, .iconst 3, .iconst 2007, .invokevirtual 12859, .goto 55] 31 loc stk M) : Wq 94 cd_94 post 31 loc stk M := prefB_run ck_94 _ 31 (by decide +kernel) h
theorem b_94_46 (h : wpl (Wq 94 cd_94 post) post [.aload 0, .iload 2, .iconst 1, .aload 0, .getfield 80606007779, .iload 1, .iaload, .ishl, .invokevirtual 20027, .aload 0, .getfield 80623211087, .iload 1, .iaload, .ifCond .ne 66, .aload 0, .getfield 80831287879, .iload 1, .iconst 0, .bastore, .goto 80] 46 loc stk M) : Wq 94 cd_94 post 46 loc stk M := prefB_run ck_94 _ 46 (by decide +kernel) h
theorem b_94_55 (h : wpl (Wq 94 cd_94 post) post [.aload 0, .getfield 80623211087, .iload 1, .iaload, .ifCond .ne 66, .aload 0, .getfield 80831287879, .iload 1, .iconst 0, .bastore, .goto 80] 55 loc stk M) : Wq 94 cd_94 post 55 loc stk M := prefB_run ck_94 _ 55 (by decide +kernel) h
theorem b_94_66 (h : wpl (Wq 94 cd_94 post) post [.aload 0, .getfield 80622391883, .iload 1, .aload 0, .aload 0, .getfield 80603550167, .iload 1, .iaload, .aload 0, .getfield 80623211087, .iload 1, .iaload, .invokevirtual 21819, .iastore, .return_] 66 loc stk M) : Wq 94 cd_94 post 66 loc stk M := prefB_run ck_94 _ 66 (by decide +kernel) h
theorem b_94_80 (h : wpl (Wq 94 cd_94 post) post [.return_] 80 loc stk M) : Wq 94 cd_94 post 80 loc stk M := prefB_run ck_94 _ 80 (by decide +kernel) h
end
/-! StaticKernelModel.leave()I -/
set_option maxRecDepth 100000 in
theorem ck_95 : chkM (mt 95) cd_95 = true := by decide +kernel
section
variable {post : Option AV → AMem → Prop} {loc : Lc} {stk : List AV} {M : AMem}
theorem b_95_0 (h : wpl (Wq 95 cd_95 post) post [.aload 0, .iconst 0, .putfield 4400, .aload 0, .iconst 17, .iconst 0, .invokevirtual 11579, .istore 1, .iload 1, .ifCond .ne 19, .aload 0, .getfield 4660, .ifCond .ne 19, .aload 0, .iconst 17, .iconst 2, .invokevirtual 12603, .istore 1, .goto 52] 0 loc stk M) : Wq 95 cd_95 post 0 loc stk M := prefB_run ck_95 _ 0 (by decide +kernel) h
theorem b_95_19 (h : wpl (Wq 95 cd_95 post) post [.iload 1, .ifCond .ne 32, .aload 0, .aload 0, .invokevirtual 11803, .invokevirtual 17451, .ifCond .eq 32, .aload 0, .iconst 17, .iconst 6, .invokevirtual 12603, .istore 1, .goto 52] 19 loc stk M) : Wq 95 cd_95 post 19 loc stk M := prefB_run ck_95 _ 19 (by decide +kernel) h
theorem b_95_32 (h : wpl (Wq 95 cd_95 post) post [.iload 1, .ifCond .ne 52, .aload 0, .invokevirtual 12059, .istore 2, .aload 0, .getfield 26931204659, .iload 2, .iconst (-1), .iastore, .aload 0, .dup, .getfield 4660, .iconst 1, .isub, .putfield 4660, .aload 0, .iconst 6, .iload 2, .invokevirtual 12859, .aload 0, .iload 1, .invokevirtual 14123, .ret 0] 32 loc stk M) : Wq 95 cd_95 post 32 loc stk M := prefB_run ck_95 _ 32 (by decide +kernel) h
theorem b_95_52 (h : wpl (Wq 95 cd_95 post) post [.aload 0, .iload 1, .invokevirtual 14123, .ret 0] 52 loc stk M) : Wq 95 cd_95 post 52 loc stk M := prefB_run ck_95 _ 52 (by decide +kernel) h
end
/-! StaticKernelModel.halt(I)I -/
set_option maxRecDepth 100000 in
theorem ck_96 : chkM (mt 96) cd_96 = true := by decide +kernel
section
variable {post : Option AV → AMem → Prop} {loc : Lc} {stk : List AV} {M : AMem}
theorem b_96_0 (h : wpl (Wq 96 cd_96 post) post [.aload 0, .iconst 0, .putfield 4400, .aload 0, .iconst 18, .iconst 1, .invokevirtual 11579, .istore 2, .iload 2, .ifCond .ne 18, .aload 0, .iconst 8, .iload 1, .iconst 127, .iand, .invokevirtual 12859, .aload 0, .invokevirtual 9499, .iload 2, .ret 0] 0 loc stk M) : Wq 96 cd_96 post 0 loc stk M := prefB_run ck_96 _ 0 (by decide +kernel) h
theorem b_96_18 (h : wpl (Wq 96 cd_96 post) post [.iload 2, .ret 0] 18 loc stk M) : Wq 96 cd_96 post 18 loc stk M := prefB_run ck_96 _ 18 (by decide +kernel) h
end
/-! StaticKernelModel.tick(II)I -/
set_option maxRecDepth 100000 in
theorem ck_97 : chkM (mt 97) cd_97 = true := by decide +kernel
section
variable {post : Option AV → AMem → Prop} {loc : Lc} {stk : List AV} {M : AMem}
theorem b_97_0 (h : wpl (Wq 97 cd_97 post) post [.aload 0, .iconst 0, .putfield 4400, .aload 0, .getfield 4601, .ifCond .eq 20, .iload 1, .ifCond .lt 20, .iload 1, .aload 0, .getfield 11803038099, .iconst 3, .iaload, .if_icmp .ge 20, .iload 2, .iconst 1, .if_icmp .lt 20, .iload 2, .iconst 1000, .if_icmp .le 22, .iconst (-1), .ret 0] 0 loc stk M) : Wq 97 cd_97 post 0 loc stk M := prefB_run ck_97 _ 0 (by decide +kernel) h
theorem b_97_20 (h : wpl (Wq 97 cd_97 post) post [.iconst (-1), .ret 0] 20 loc stk M) : Wq 97 cd_97 post 20 loc stk M := prefB_run ck_97 _ 20 (by decide +kernel) h
theorem b_97_22 (h : wpl (Wq 97 cd_97 post) post [.aload 0, .getfield 4608, .ifCond .le 39, .aload 0, .getfield 26933662275, .iload 1, .iconst 2000, .aload 0, .getfield 26933662275, .iload 1, .iaload, .iload 2, .iadd, .invokestatic 288, .iastore, .iconst 0, .ret 0] 22 loc stk M) : Wq 97 cd_97 post 22 loc stk M := prefB_run ck_97 _ 22 (by decide +kernel) h
theorem b_97_39 (h : wpl (Wq 97 cd_97 post) post [.iconst 0, .istore 3, .iconst 0, .istore 4] 39 loc stk M) : Wq 97 cd_97 post 39 loc stk M := prefB_run ck_97 _ 39 (by decide +kernel) h
theorem b_97_43 (h : wpl (Wq 97 cd_97 post) post [.iload 4, .iload 2, .if_icmp .ge 54, .iload 3, .aload 0, .iload 1, .invokevirtual 23851, .iadd, .istore 3, .iinc 4 1, .goto 43] 43 loc stk M) : Wq 97 cd_97 post 43 loc stk M := prefB_run ck_97 _ 43 (by decide +kernel) h
theorem b_97_54 (h : wpl (Wq 97 cd_97 post) post [.aload 0, .invokevirtual 16667, .iload 3, .ret 0] 54 loc stk M) : Wq 97 cd_97 post 54 loc stk M := prefB_run ck_97 _ 54 (by decide +kernel) h
end
/-! StaticKernelModel.call(I)I -/
set_option maxRecDepth 100000 in
theorem ck_98 : chkM (mt 98) cd_98 = true := by decide +kernel
section
variable {post : Option AV → AMem → Prop} {loc : Lc} {stk : List AV} {M : AMem}
theorem b_98_0 (h : wpl (Wq 98 cd_98 post) post [.aload 0, .iconst 0, .putfield 4400, .aload 0, .getfield 4601, .ifCond .eq 14, .iload 1, .ifCond .lt 14, .iload 1, .aload 0, .getfield 11803038099, .iconst 5, .iaload, .if_icmp .lt 16, .iconst (-1), .ret 0] 0 loc stk M) : Wq 98 cd_98 post 0 loc stk M := prefB_run ck_98 _ 0 (by decide +kernel) h
theorem b_98_14 (h : wpl (Wq 98 cd_98 post) post [.iconst (-1), .ret 0] 14 loc stk M) : Wq 98 cd_98 post 14 loc stk M := prefB_run ck_98 _ 14 (by decide +kernel) h
theorem b_98_16 (h : wpl (Wq 98 cd_98 post) post [.aload 0, .getfield 27140100655, .iload 1, .baload, .ifCond .eq 25, .aload 0, .iconst 1, .invokevirtual 14123, .ret 0] 16 loc stk M) : Wq 98 cd_98 post 16 loc stk M := prefB_run ck_98 _ 16 (by decide +kernel) h
theorem b_98_25 (h : wpl (Wq 98 cd_98 post) post [.aload 0, .getfield 27140100655, .iload 1, .iconst 1, .bastore, .aload 0, .iconst 0, .invokevirtual 14123, .ret 0] 25 loc stk M) : Wq 98 cd_98 post 25 loc stk M := prefB_run ck_98 _ 25 (by decide +kernel) h
end
/-! StaticKernelModel.start(I)I -/
set_option maxRecDepth 100000 in
theorem ck_99 : chkM (mt 99) cd_99 = true := by decide +kernel
section
variable {post : Option AV → AMem → Prop} {loc : Lc} {stk : List AV} {M : AMem}
theorem b_99_0 (h : wpl (Wq 99 cd_99 post) post [.aload 0, .iconst 0, .putfield 4400, .aload 0, .getfield 4601, .ifCond .eq 8, .iconst 7, .ret 0] 0 loc stk M) : Wq 99 cd_99 post 0 loc stk M := prefB_run ck_99 _ 0 (by decide +kernel) h
theorem b_99_8 (h : wpl (Wq 99 cd_99 post) post [.iload 1, .ifCond .lt 16, .iload 1, .aload 0, .getfield 11803038099, .iconst 0, .iaload, .if_icmp .lt 18, .iconst 3, .ret 0] 8 loc stk M) : Wq 99 cd_99 post 8 loc stk M := prefB_run ck_99 _ 8 (by decide +kernel) h
theorem b_99_16 (h : wpl (Wq 99 cd_99 post) post [.iconst 3, .ret 0] 16 loc stk M) : Wq 99 cd_99 post 16 loc stk M := prefB_run ck_99 _ 16 (by decide +kernel) h
theorem b_99_18 (h : wpl (Wq 99 cd_99 post) post [.iconst 0, .istore 2] 18 loc stk M) : Wq 99 cd_99 post 18 loc stk M := prefB_run ck_99 _ 18 (by decide +kernel) h
theorem b_99_20 (h : wpl (Wq 99 cd_99 post) post [.iload 2, .iconst 16, .if_icmp .ge 35, .aload 0, .getfield 26932023867, .iload 2, .iconst 0, .iastore, .aload 0, .getfield 26932843071, .iload 2, .iconst 0, .iastore, .iinc 2 1, .goto 20] 20 loc stk M) : Wq 99 cd_99 post 20 loc stk M := prefB_run ck_99 _ 20 (by decide +kernel) h
theorem b_99_35 (h : wpl (Wq 99 cd_99 post) post [.aload 0, .iconst 0, .putfield 4692, .aload 0, .iconst 0, .putfield 4696, .aload 0, .iconst 0, .putfield 4700, .aload 0, .iconst 1, .putfield 4601, .aload 0, .iload 1, .putfield 4604, .aload 0, .iconst 7, .iload 1, .invokevirtual 12859, .iconst 0, .istore 2] 35 loc stk M) : Wq 99 cd_99 post 35 loc stk M := prefB_run ck_99 _ 35 (by decide +kernel) h
theorem b_99_56 (h : wpl (Wq 99 cd_99 post) post [.iload 2, .aload 0, .getfield 11803038099, .iconst 4, .iaload, .if_icmp .ge 77, .aload 0, .getfield 80600273351, .iload 2, .iaload, .iload 1, .ishr, .iconst 1, .iand, .iconst 1, .if_icmp .ne 75, .aload 0, .iload 2, .invokevirtual 13611, .iinc 2 1, .goto 56] 56 loc stk M) : Wq 99 cd_99 post 56 loc stk M := prefB_run ck_99 _ 56 (by decide +kernel) h
theorem b_99_75 (h : wpl (Wq 99 cd_99 post) post [.iinc 2 1, .goto 56] 75 loc stk M) : Wq 99 cd_99 post 75 loc stk M := prefB_run ck_99 _ 75 (by decide +kernel) h
theorem b_99_77 (h : wpl (Wq 99 cd_99 post) post [.iconst 0, .istore 2] 77 loc stk M) : Wq 99 cd_99 post 77 loc stk M := prefB_run ck_99 _ 77 (by decide +kernel) h
theorem b_99_79 (h : wpl (Wq 99 cd_99 post) post [.iload 2, .aload 0, .getfield 11803038099, .iconst 6, .iaload, .if_icmp .ge 114, .aload 0, .getfield 80606826983, .iload 2, .iaload, .iload 1, .ishr, .iconst 1, .iand, .iconst 1, .if_icmp .ne 112, .aload 0, .iload 2, .aload 0, .aload 0, .getfield 80603550167, .iload 2, .iaload, .aload 0, .getfield 80607646187, .iload 2, .iaload, .invokevirtual 21819, .aload 0, .getfield 80608465391, .iload 2, .iaload, .invokevirtual 22091, .iinc 2 1, .goto 79] 79 loc stk M) : Wq 99 cd_99 post 79 loc stk M := prefB_run ck_99 _ 79 (by decide +kernel) h
theorem b_99_112 (h : wpl (Wq 99 cd_99 post) post [.iinc 2 1, .goto 79] 112 loc stk M) : Wq 99 cd_99 post 112 loc stk M := prefB_run ck_99 _ 112 (by decide +kernel) h
theorem b_99_114 (h : wpl (Wq 99 cd_99 post) post [.aload 0, .iconst 0, .invokevirtual 14123, .ret 0] 114 loc stk M) : Wq 99 cd_99 post 114 loc stk M := prefB_run ck_99 _ 114 (by decide +kernel) h
end
/-! StaticKernelModel.atWork()I -/
set_option maxRecDepth 100000 in
theorem ck_100 : chkM (mt 100) cd_100 = true := by decide +kernel
section
variable {post : Option AV → AMem → Prop} {loc : Lc} {stk : List AV} {M : AMem}
theorem b_100_0 (h : wpl (Wq 100 cd_100 post) post [.aload 0, .iconst 0, .putfield 4400, .aload 0, .invokevirtual 11803, .istore 1, .iload 1, .ifCond .ne 10, .iconst (-1), .goto 23] 0 loc stk M) : Wq 100 cd_100 post 0 loc stk M := prefB_run ck_100 _ 0 (by decide +kernel) h
theorem b_100_10 (h : wpl (Wq 100 cd_100 post) post [.iload 1, .iconst 1000, .if_icmp .lt 17, .iload 1, .iconst 900, .isub, .goto 23] 10 loc stk M) : Wq 100 cd_100 post 10 loc stk M := prefB_run ck_100 _ 10 (by decide +kernel) h
theorem b_100_17 (h : wpl (Wq 100 cd_100 post) post [.aload 0, .getfield 671168107015, .iload 1, .iconst 1, .isub, .iaload, .ret 0] 17 loc stk M) : Wq 100 cd_100 post 17 loc stk M := prefB_run ck_100 _ 17 (by decide +kernel) h
theorem b_100_23 (h : wpl (Wq 100 cd_100 post) post [.ret 0] 23 loc stk M) : Wq 100 cd_100 post 23 loc stk M := prefB_run ck_100 _ 23 (by decide +kernel) h
end
/-! StaticKernelModel.running()I -/
set_option maxRecDepth 100000 in
theorem ck_101 : chkM (mt 101) cd_101 = true := by decide +kernel
section
variable {post : Option AV → AMem → Prop} {loc : Lc} {stk : List AV} {M : AMem}
theorem b_101_0 (h : wpl (Wq 101 cd_101 post) post [.aload 0, .iconst 0, .putfield 4400, .aload 0, .invokevirtual 12315, .istore 1, .iload 1, .iconst (-1), .if_icmp .ne 11, .iconst (-1), .goto 15] 0 loc stk M) : Wq 101 cd_101 post 0 loc stk M := prefB_run ck_101 _ 0 (by decide +kernel) h
theorem b_101_11 (h : wpl (Wq 101 cd_101 post) post [.aload 0, .getfield 671168107015, .iload 1, .iaload, .ret 0] 11 loc stk M) : Wq 101 cd_101 post 11 loc stk M := prefB_run ck_101 _ 11 (by decide +kernel) h
theorem b_101_15 (h : wpl (Wq 101 cd_101 post) post [.ret 0] 15 loc stk M) : Wq 101 cd_101 post 15 loc stk M := prefB_run ck_101 _ 15 (by decide +kernel) h
end
/-! StaticKernelModel.task(II)I -/
set_option maxRecDepth 100000 in
theorem ck_102 : chkM (mt 102) cd_102 = true := by decide +kernel
section
variable {post : Option AV → AMem → Prop} {loc : Lc} {stk : List AV} {M : AMem}
theorem b_102_0 (h : wpl (Wq 102 cd_102 post) post [.aload 0, .iconst 0, .putfield 4400, .aload 0, .iload 1, .invokevirtual 13099, .ifCond .ne 12, .aload 0, .invokevirtual 11035, .istore 3, .iconst 0, .ret 0] 0 loc stk M) : Wq 102 cd_102 post 0 loc stk M := prefB_run ck_102 _ 0 (by decide +kernel) h
theorem b_102_12 (h : wpl (Wq 102 cd_102 post) post [.aload 0, .iload 1, .invokevirtual 26411, .istore 3, .iload 2, .tableswitch 74 0 6 #[18, 28, 32, 46, 55, 60, 65]] 12 loc stk M) : Wq 102 cd_102 post 12 loc stk M := prefB_run ck_102 _ 12 (by decide +kernel) h
theorem b_102_18 (h : wpl (Wq 102 cd_102 post) post [.iload 3, .iconst (-1), .if_icmp .ne 23, .iconst 0, .goto 27] 18 loc stk M) : Wq 102 cd_102 post 18 loc stk M := prefB_run ck_102 _ 18 (by decide +kernel) h
theorem b_102_23 (h : wpl (Wq 102 cd_102 post) post [.aload 0, .getfield 671168926219, .iload 3, .iaload, .ret 0] 23 loc stk M) : Wq 102 cd_102 post 23 loc stk M := prefB_run ck_102 _ 23 (by decide +kernel) h
theorem b_102_27 (h : wpl (Wq 102 cd_102 post) post [.ret 0] 27 loc stk M) : Wq 102 cd_102 post 27 loc stk M := prefB_run ck_102 _ 27 (by decide +kernel) h
theorem b_102_28 (h : wpl (Wq 102 cd_102 post) post [.aload 0, .iload 1, .invokevirtual 13355, .ret 0] 28 loc stk M) : Wq 102 cd_102 post 28 loc stk M := prefB_run ck_102 _ 28 (by decide +kernel) h
theorem b_102_32 (h : wpl (Wq 102 cd_102 post) post [.iload 3, .iconst (-1), .if_icmp .ne 40, .aload 0, .getfield 80596996535, .iload 1, .iaload, .goto 45] 32 loc stk M) : Wq 102 cd_102 post 32 loc stk M := prefB_run ck_102 _ 32 (by decide +kernel) h
theorem b_102_40 (h : wpl (Wq 102 cd_102 post) post [.aload 0, .iconst 1, .iload 3, .iadd, .invokevirtual 14635, .ret 0] 40 loc stk M) : Wq 102 cd_102 post 40 loc stk M := prefB_run ck_102 _ 40 (by decide +kernel) h
theorem b_102_45 (h : wpl (Wq 102 cd_102 post) post [.ret 0] 45 loc stk M) : Wq 102 cd_102 post 45 loc stk M := prefB_run ck_102 _ 45 (by decide +kernel) h
theorem b_102_46 (h : wpl (Wq 102 cd_102 post) post [.iload 3, .iconst (-1), .if_icmp .ne 51, .iconst 0, .goto 54] 46 loc stk M) : Wq 102 cd_102 post 46 loc stk M := prefB_run ck_102 _ 46 (by decide +kernel) h
theorem b_102_51 (h : wpl (Wq 102 cd_102 post) post [.aload 0, .iload 3, .invokevirtual 26667, .ret 0] 51 loc stk M) : Wq 102 cd_102 post 51 loc stk M := prefB_run ck_102 _ 51 (by decide +kernel) h
theorem b_102_54 (h : wpl (Wq 102 cd_102 post) post [.ret 0] 54 loc stk M) : Wq 102 cd_102 post 54 loc stk M := prefB_run ck_102 _ 54 (by decide +kernel) h
theorem b_102_55 (h : wpl (Wq 102 cd_102 post) post [.aload 0, .getfield 80596996535, .iload 1, .iaload, .ret 0] 55 loc stk M) : Wq 102 cd_102 post 55 loc stk M := prefB_run ck_102 _ 55 (by decide +kernel) h
theorem b_102_60 (h : wpl (Wq 102 cd_102 post) post [.aload 0, .getfield 80598634943, .iload 1, .iaload, .ret 0] 60 loc stk M) : Wq 102 cd_102 post 60 loc stk M := prefB_run ck_102 _ 60 (by decide +kernel) h
theorem b_102_65 (h : wpl (Wq 102 cd_102 post) post [.aload 0, .getfield 80807530939, .iload 1, .baload, .ifCond .eq 72, .iconst 1, .goto 73] 65 loc stk M) : Wq 102 cd_102 post 65 loc stk M := prefB_run ck_102 _ 65 (by decide +kernel) h
theorem b_102_72 (h : wpl (Wq 102 cd_102 post) post [.iconst 0, .ret 0] 72 loc stk M) : Wq 102 cd_102 post 72 loc stk M := prefB_run ck_102 _ 72 (by decide +kernel) h
theorem b_102_73 (h : wpl (Wq 102 cd_102 post) post [.ret 0] 73 loc stk M) : Wq 102 cd_102 post 73 loc stk M := prefB_run ck_102 _ 73 (by decide +kernel) h
theorem b_102_74 (h : wpl (Wq 102 cd_102 post) post [.iconst (-1), .ret 0] 74 loc stk M) : Wq 102 cd_102 post 74 loc stk M := prefB_run ck_102 _ 74 (by decide +kernel) h
end
/-! StaticKernelModel.requestOf(I)I -/
set_option maxRecDepth 100000 in
theorem ck_103 : chkM (mt 103) cd_103 = true := by decide +kernel
section
variable {post : Option AV → AMem → Prop} {loc : Lc} {stk : List AV} {M : AMem}
theorem b_103_0 (h : wpl (Wq 103 cd_103 post) post [.iconst (-1), .istore 2, .iconst 0, .istore 3] 0 loc stk M) : Wq 103 cd_103 post 0 loc stk M := prefB_run ck_103 _ 0 (by decide +kernel) h
theorem b_103_4 (h : wpl (Wq 103 cd_103 post) post [.iload 3, .iconst 400, .if_icmp .ge 39, .aload 0, .getfield 671168926219, .iload 3, .iaload, .ifCond .eq 37, .aload 0, .getfield 671168107015, .iload 3, .iaload, .iload 1, .if_icmp .eq 19, .goto 37] 4 loc stk M) : Wq 103 cd_103 post 4 loc stk M := prefB_run ck_103 _ 4 (by decide +kernel) h
theorem b_103_19 (h : wpl (Wq 103 cd_103 post) post [.aload 0, .getfield 671168926219, .iload 3, .iaload, .iconst 1, .if_icmp .eq 27, .iload 3, .ret 0] 19 loc stk M) : Wq 103 cd_103 post 19 loc stk M := prefB_run ck_103 _ 19 (by decide +kernel) h
theorem b_103_27 (h : wpl (Wq 103 cd_103 post) post [.iload 2, .iconst (-1), .if_icmp .eq 35, .aload 0, .iload 3, .iload 2, .invokevirtual 15675, .ifCond .eq 37, .iload 3, .istore 2, .iinc 3 1, .goto 4] 27 loc stk M) : Wq 103 cd_103 post 27 loc stk M := prefB_run ck_103 _ 27 (by decide +kernel) h
theorem b_103_35 (h : wpl (Wq 103 cd_103 post) post [.iload 3, .istore 2, .iinc 3 1, .goto 4] 35 loc stk M) : Wq 103 cd_103 post 35 loc stk M := prefB_run ck_103 _ 35 (by decide +kernel) h
theorem b_103_37 (h : wpl (Wq 103 cd_103 post) post [.iinc 3 1, .goto 4] 37 loc stk M) : Wq 103 cd_103 post 37 loc stk M := prefB_run ck_103 _ 37 (by decide +kernel) h
theorem b_103_39 (h : wpl (Wq 103 cd_103 post) post [.iload 2, .ret 0] 39 loc stk M) : Wq 103 cd_103 post 39 loc stk M := prefB_run ck_103 _ 39 (by decide +kernel) h
end
/-! StaticKernelModel.manyHad(I)I -/
set_option maxRecDepth 100000 in
theorem ck_104 : chkM (mt 104) cd_104 = true := by decide +kernel
section
variable {post : Option AV → AMem → Prop} {loc : Lc} {stk : List AV} {M : AMem}
theorem b_104_0 (h : wpl (Wq 104 cd_104 post) post [.aload 0, .getfield 671384375851, .iload 1, .baload, .ifCond .eq 7, .iconst 1, .goto 8] 0 loc stk M) : Wq 104 cd_104 post 0 loc stk M := prefB_run ck_104 _ 0 (by decide +kernel) h
theorem b_104_7 (h : wpl (Wq 104 cd_104 post) post [.iconst 0, .istore 2, .iconst 0, .istore 3] 7 loc stk M) : Wq 104 cd_104 post 7 loc stk M := prefB_run ck_104 _ 7 (by decide +kernel) h
theorem b_104_8 (h : wpl (Wq 104 cd_104 post) post [.istore 2, .iconst 0, .istore 3] 8 loc stk M) : Wq 104 cd_104 post 8 loc stk M := prefB_run ck_104 _ 8 (by decide +kernel) h
theorem b_104_11 (h : wpl (Wq 104 cd_104 post) post [.iload 3, .aload 0, .iconst 2, .invokevirtual 10283, .if_icmp .ge 32, .iload 2, .aload 0, .getfield 53771473443, .iload 3, .iaload, .iconst 1, .iload 1, .iadd, .if_icmp .ne 27, .iconst 1, .goto 28] 11 loc stk M) : Wq 104 cd_104 post 11 loc stk M := prefB_run ck_104 _ 11 (by decide +kernel) h
theorem b_104_27 (h : wpl (Wq 104 cd_104 post) post [.iconst 0, .iadd, .istore 2, .iinc 3 1, .goto 11] 27 loc stk M) : Wq 104 cd_104 post 27 loc stk M := prefB_run ck_104 _ 27 (by decide +kernel) h
theorem b_104_28 (h : wpl (Wq 104 cd_104 post) post [.iadd, .istore 2, .iinc 3 1, .goto 11] 28 loc stk M) : Wq 104 cd_104 post 28 loc stk M := prefB_run ck_104 _ 28 (by decide +kernel) h
theorem b_104_32 (h : wpl (Wq 104 cd_104 post) post [.iload 2, .ret 0] 32 loc stk M) : Wq 104 cd_104 post 32 loc stk M := prefB_run ck_104 _ 32 (by decide +kernel) h
end
/-! StaticKernelModel.bits(II)J -/
set_option maxRecDepth 100000 in
theorem ck_105 : chkM (mt 105) cd_105 = true := by decide +kernel
section
variable {post : Option AV → AMem → Prop} {loc : Lc} {stk : List AV} {M : AMem}
theorem b_105_0 (h : wpl (Wq 105 cd_105 post) post [.aload 0, .iconst 0, .putfield 4400, .aload 0, .iload 1, .invokevirtual 13099, .ifCond .ne 12, .aload 0, .invokevirtual 11035, .istore 3, .ldc2_w 0, .lreturn] 0 loc stk M) : Wq 105 cd_105 post 0 loc stk M := prefB_run ck_105 _ 0 (by decide +kernel) h
theorem b_105_12 (h : wpl (Wq 105 cd_105 post) post [.aload 0, .iload 1, .invokevirtual 26411, .istore 3, .iload 2, .ifCond .ne 23, .aload 0, .getfield 80599454147, .iload 1, .iaload, .goto 49] 12 loc stk M) : Wq 105 cd_105 post 12 loc stk M := prefB_run ck_105 _ 12 (by decide +kernel) h
theorem b_105_23 (h : wpl (Wq 105 cd_105 post) post [.iload 2, .iconst 1, .if_icmp .ne 31, .aload 0, .getfield 80614199839, .iload 1, .iaload, .goto 49] 23 loc stk M) : Wq 105 cd_105 post 23 loc stk M := prefB_run ck_105 _ 23 (by decide +kernel) h
theorem b_105_31 (h : wpl (Wq 105 cd_105 post) post [.iload 2, .iconst 2, .if_icmp .ne 48, .iload 3, .iconst (-1), .if_icmp .eq 48, .aload 0, .getfield 671168926219, .iload 3, .iaload, .iconst 3, .if_icmp .ne 48, .aload 0, .getfield 671171383831, .iload 3, .iaload, .goto 49] 31 loc stk M) : Wq 105 cd_105 post 31 loc stk M := prefB_run ck_105 _ 31 (by decide +kernel) h
theorem b_105_48 (h : wpl (Wq 105 cd_105 post) post [.iconst 0, .istore 4, .iload 4, .i2l, .ldc2_w 4294967295, .land, .lreturn] 48 loc stk M) : Wq 105 cd_105 post 48 loc stk M := prefB_run ck_105 _ 48 (by decide +kernel) h
theorem b_105_49 (h : wpl (Wq 105 cd_105 post) post [.istore 4, .iload 4, .i2l, .ldc2_w 4294967295, .land, .lreturn] 49 loc stk M) : Wq 105 cd_105 post 49 loc stk M := prefB_run ck_105 _ 49 (by decide +kernel) h
end
/-! StaticKernelModel.resource(II)I -/
set_option maxRecDepth 100000 in
theorem ck_106 : chkM (mt 106) cd_106 = true := by decide +kernel
section
variable {post : Option AV → AMem → Prop} {loc : Lc} {stk : List AV} {M : AMem}
theorem b_106_0 (h : wpl (Wq 106 cd_106 post) post [.aload 0, .iconst 0, .putfield 4400, .aload 0, .iconst 2, .iload 1, .invokevirtual 10811, .ifCond .ne 13, .aload 0, .invokevirtual 11035, .istore 3, .iconst 0, .ret 0] 0 loc stk M) : Wq 106 cd_106 post 0 loc stk M := prefB_run ck_106 _ 0 (by decide +kernel) h
theorem b_106_13 (h : wpl (Wq 106 cd_106 post) post [.iload 2, .tableswitch 45 0 3 #[15, 27, 31, 36]] 13 loc stk M) : Wq 106 cd_106 post 13 loc stk M := prefB_run ck_106 _ 13 (by decide +kernel) h
theorem b_106_15 (h : wpl (Wq 106 cd_106 post) post [.aload 0, .getfield 11803038099, .iconst 2, .iaload, .ifCond .ne 22, .iconst (-1), .goto 26] 15 loc stk M) : Wq 106 cd_106 post 15 loc stk M := prefB_run ck_106 _ 15 (by decide +kernel) h
theorem b_106_22 (h : wpl (Wq 106 cd_106 post) post [.aload 0, .getfield 53750174119, .iload 1, .iaload, .ret 0] 22 loc stk M) : Wq 106 cd_106 post 22 loc stk M := prefB_run ck_106 _ 22 (by decide +kernel) h
theorem b_106_26 (h : wpl (Wq 106 cd_106 post) post [.ret 0] 26 loc stk M) : Wq 106 cd_106 post 26 loc stk M := prefB_run ck_106 _ 26 (by decide +kernel) h
theorem b_106_27 (h : wpl (Wq 106 cd_106 post) post [.aload 0, .iload 1, .invokevirtual 27435, .ret 0] 27 loc stk M) : Wq 106 cd_106 post 27 loc stk M := prefB_run ck_106 _ 27 (by decide +kernel) h
theorem b_106_31 (h : wpl (Wq 106 cd_106 post) post [.aload 0, .getfield 53749354915, .iload 1, .iaload, .ret 0] 31 loc stk M) : Wq 106 cd_106 post 31 loc stk M := prefB_run ck_106 _ 31 (by decide +kernel) h
theorem b_106_36 (h : wpl (Wq 106 cd_106 post) post [.aload 0, .getfield 53958250911, .iload 1, .baload, .ifCond .eq 43, .iconst 1, .goto 44] 36 loc stk M) : Wq 106 cd_106 post 36 loc stk M := prefB_run ck_106 _ 36 (by decide +kernel) h
theorem b_106_43 (h : wpl (Wq 106 cd_106 post) post [.iconst 0, .ret 0] 43 loc stk M) : Wq 106 cd_106 post 43 loc stk M := prefB_run ck_106 _ 43 (by decide +kernel) h
theorem b_106_44 (h : wpl (Wq 106 cd_106 post) post [.ret 0] 44 loc stk M) : Wq 106 cd_106 post 44 loc stk M := prefB_run ck_106 _ 44 (by decide +kernel) h
theorem b_106_45 (h : wpl (Wq 106 cd_106 post) post [.iconst (-1), .ret 0] 45 loc stk M) : Wq 106 cd_106 post 45 loc stk M := prefB_run ck_106 _ 45 (by decide +kernel) h
end
/-! StaticKernelModel.haverOf(I)I -/
set_option maxRecDepth 100000 in
theorem ck_107 : chkM (mt 107) cd_107 = true := by decide +kernel
section
variable {post : Option AV → AMem → Prop} {loc : Lc} {stk : List AV} {M : AMem}
theorem b_107_0 (h : wpl (Wq 107 cd_107 post) post [.aload 0, .getfield 53958250911, .iload 1, .baload, .ifCond .ne 35, .aload 0, .getfield 53771473443, .iload 1, .iaload, .ifCond .ne 12, .iconst (-1), .goto 34] 0 loc stk M) : Wq 107 cd_107 post 0 loc stk M := prefB_run ck_107 _ 0 (by decide +kernel) h
theorem b_107_12 (h : wpl (Wq 107 cd_107 post) post [.aload 0, .getfield 53771473443, .iload 1, .iaload, .iconst 1000, .if_icmp .lt 25, .aload 0, .getfield 53771473443, .iload 1, .iaload, .iconst 900, .isub, .goto 34] 12 loc stk M) : Wq 107 cd_107 post 12 loc stk M := prefB_run ck_107 _ 12 (by decide +kernel) h
theorem b_107_25 (h : wpl (Wq 107 cd_107 post) post [.aload 0, .getfield 671168107015, .aload 0, .getfield 53771473443, .iload 1, .iaload, .iconst 1, .isub, .iaload, .ret 0] 25 loc stk M) : Wq 107 cd_107 post 25 loc stk M := prefB_run ck_107 _ 25 (by decide +kernel) h
theorem b_107_34 (h : wpl (Wq 107 cd_107 post) post [.ret 0] 34 loc stk M) : Wq 107 cd_107 post 34 loc stk M := prefB_run ck_107 _ 34 (by decide +kernel) h
theorem b_107_35 (h : wpl (Wq 107 cd_107 post) post [.iconst (-1), .istore 2, .iconst 0, .istore 3] 35 loc stk M) : Wq 107 cd_107 post 35 loc stk M := prefB_run ck_107 _ 35 (by decide +kernel) h
theorem b_107_39 (h : wpl (Wq 107 cd_107 post) post [.iload 3, .iconst 400, .if_icmp .ge 76, .aload 0, .getfield 671168926219, .iload 3, .iaload, .ifCond .eq 74, .aload 0, .getfield 671384375851, .iload 3, .baload, .ifCond .eq 74, .aload 0, .aload 0, .getfield 671168107015, .iload 3, .iaload, .invokevirtual 15147, .iload 1, .if_icmp .ne 74, .iload 2, .iconst (-1), .if_icmp .eq 69, .aload 0, .getfield 671168107015, .iload 3, .iaload, .iload 2, .if_icmp .ge 74, .aload 0, .getfield 671168107015, .iload 3, .iaload, .istore 2, .iinc 3 1, .goto 39] 39 loc stk M) : Wq 107 cd_107 post 39 loc stk M := prefB_run ck_107 _ 39 (by decide +kernel) h
theorem b_107_69 (h : wpl (Wq 107 cd_107 post) post [.aload 0, .getfield 671168107015, .iload 3, .iaload, .istore 2, .iinc 3 1, .goto 39] 69 loc stk M) : Wq 107 cd_107 post 69 loc stk M := prefB_run ck_107 _ 69 (by decide +kernel) h
theorem b_107_74 (h : wpl (Wq 107 cd_107 post) post [.iinc 3 1, .goto 39] 74 loc stk M) : Wq 107 cd_107 post 74 loc stk M := prefB_run ck_107 _ 74 (by decide +kernel) h
theorem b_107_76 (h : wpl (Wq 107 cd_107 post) post [.iload 2, .ret 0] 76 loc stk M) : Wq 107 cd_107 post 76 loc stk M := prefB_run ck_107 _ 76 (by decide +kernel) h
end
/-! StaticKernelModel.isr(II)I -/
set_option maxRecDepth 100000 in
theorem ck_108 : chkM (mt 108) cd_108 = true := by decide +kernel
section
variable {post : Option AV → AMem → Prop} {loc : Lc} {stk : List AV} {M : AMem}
theorem b_108_0 (h : wpl (Wq 108 cd_108 post) post [.aload 0, .iconst 0, .putfield 4400, .aload 0, .iconst 5, .iload 1, .invokevirtual 10811, .ifCond .ne 13, .aload 0, .invokevirtual 11035, .istore 3, .iconst 0, .ret 0] 0 loc stk M) : Wq 108 cd_108 post 0 loc stk M := prefB_run ck_108 _ 0 (by decide +kernel) h
theorem b_108_13 (h : wpl (Wq 108 cd_108 post) post [.iload 2, .tableswitch 46 0 2 #[15, 32, 37]] 13 loc stk M) : Wq 108 cd_108 post 13 loc stk M := prefB_run ck_108 _ 13 (by decide +kernel) h
theorem b_108_15 (h : wpl (Wq 108 cd_108 post) post [.aload 0, .getfield 26931204659, .iload 1, .iaload, .iconst (-1), .if_icmp .ne 26, .aload 0, .getfield 26914820559, .iload 1, .iaload, .goto 31] 15 loc stk M) : Wq 108 cd_108 post 15 loc stk M := prefB_run ck_108 _ 15 (by decide +kernel) h
theorem b_108_26 (h : wpl (Wq 108 cd_108 post) post [.aload 0, .iconst 1000, .iload 1, .iadd, .invokevirtual 14635, .ret 0] 26 loc stk M) : Wq 108 cd_108 post 26 loc stk M := prefB_run ck_108 _ 26 (by decide +kernel) h
theorem b_108_31 (h : wpl (Wq 108 cd_108 post) post [.ret 0] 31 loc stk M) : Wq 108 cd_108 post 31 loc stk M := prefB_run ck_108 _ 31 (by decide +kernel) h
theorem b_108_32 (h : wpl (Wq 108 cd_108 post) post [.aload 0, .getfield 26931204659, .iload 1, .iaload, .ret 0] 32 loc stk M) : Wq 108 cd_108 post 32 loc stk M := prefB_run ck_108 _ 32 (by decide +kernel) h
theorem b_108_37 (h : wpl (Wq 108 cd_108 post) post [.aload 0, .getfield 27140100655, .iload 1, .baload, .ifCond .eq 44, .iconst 1, .goto 45] 37 loc stk M) : Wq 108 cd_108 post 37 loc stk M := prefB_run ck_108 _ 37 (by decide +kernel) h
theorem b_108_44 (h : wpl (Wq 108 cd_108 post) post [.iconst 0, .ret 0] 44 loc stk M) : Wq 108 cd_108 post 44 loc stk M := prefB_run ck_108 _ 44 (by decide +kernel) h
theorem b_108_45 (h : wpl (Wq 108 cd_108 post) post [.ret 0] 45 loc stk M) : Wq 108 cd_108 post 45 loc stk M := prefB_run ck_108 _ 45 (by decide +kernel) h
theorem b_108_46 (h : wpl (Wq 108 cd_108 post) post [.iconst (-1), .ret 0] 46 loc stk M) : Wq 108 cd_108 post 46 loc stk M := prefB_run ck_108 _ 46 (by decide +kernel) h
end
/-! StaticKernelModel.counter(II)I -/
set_option maxRecDepth 100000 in
theorem ck_109 : chkM (mt 109) cd_109 = true := by decide +kernel
section
variable {post : Option AV → AMem → Prop} {loc : Lc} {stk : List AV} {M : AMem}
theorem b_109_0 (h : wpl (Wq 109 cd_109 post) post [.aload 0, .iconst 0, .putfield 4400, .aload 0, .iconst 3, .iload 1, .invokevirtual 10811, .ifCond .ne 13, .aload 0, .invokevirtual 11035, .istore 3, .iconst 0, .ret 0] 0 loc stk M) : Wq 109 cd_109 post 0 loc stk M := prefB_run ck_109 _ 0 (by decide +kernel) h
theorem b_109_13 (h : wpl (Wq 109 cd_109 post) post [.iload 2, .tableswitch 45 0 5 #[15, 20, 25, 30, 35, 40]] 13 loc stk M) : Wq 109 cd_109 post 13 loc stk M := prefB_run ck_109 _ 13 (by decide +kernel) h
theorem b_109_15 (h : wpl (Wq 109 cd_109 post) post [.aload 0, .getfield 26932023867, .iload 1, .iaload, .ret 0] 15 loc stk M) : Wq 109 cd_109 post 15 loc stk M := prefB_run ck_109 _ 15 (by decide +kernel) h
theorem b_109_20 (h : wpl (Wq 109 cd_109 post) post [.aload 0, .getfield 26932843071, .iload 1, .iaload, .ret 0] 20 loc stk M) : Wq 109 cd_109 post 20 loc stk M := prefB_run ck_109 _ 20 (by decide +kernel) h
theorem b_109_25 (h : wpl (Wq 109 cd_109 post) post [.aload 0, .getfield 26933662275, .iload 1, .iaload, .ret 0] 25 loc stk M) : Wq 109 cd_109 post 25 loc stk M := prefB_run ck_109 _ 25 (by decide +kernel) h
theorem b_109_30 (h : wpl (Wq 109 cd_109 post) post [.aload 0, .getfield 26907447723, .iload 1, .iaload, .ret 0] 30 loc stk M) : Wq 109 cd_109 post 30 loc stk M := prefB_run ck_109 _ 30 (by decide +kernel) h
theorem b_109_35 (h : wpl (Wq 109 cd_109 post) post [.aload 0, .getfield 26908266927, .iload 1, .iaload, .ret 0] 35 loc stk M) : Wq 109 cd_109 post 35 loc stk M := prefB_run ck_109 _ 35 (by decide +kernel) h
theorem b_109_40 (h : wpl (Wq 109 cd_109 post) post [.aload 0, .getfield 26909086131, .iload 1, .iaload, .ret 0] 40 loc stk M) : Wq 109 cd_109 post 40 loc stk M := prefB_run ck_109 _ 40 (by decide +kernel) h
theorem b_109_45 (h : wpl (Wq 109 cd_109 post) post [.iconst (-1), .ret 0] 45 loc stk M) : Wq 109 cd_109 post 45 loc stk M := prefB_run ck_109 _ 45 (by decide +kernel) h
end
/-! StaticKernelModel.alarm(II)I -/
set_option maxRecDepth 100000 in
theorem ck_110 : chkM (mt 110) cd_110 = true := by decide +kernel
section
variable {post : Option AV → AMem → Prop} {loc : Lc} {stk : List AV} {M : AMem}
theorem b_110_0 (h : wpl (Wq 110 cd_110 post) post [.aload 0, .iconst 0, .putfield 4400, .aload 0, .iconst 6, .iload 1, .invokevirtual 10811, .ifCond .ne 13, .aload 0, .invokevirtual 11035, .istore 3, .iconst 0, .ret 0] 0 loc stk M) : Wq 110 cd_110 post 0 loc stk M := prefB_run ck_110 _ 0 (by decide +kernel) h
theorem b_110_13 (h : wpl (Wq 110 cd_110 post) post [.iload 2, .tableswitch 53 0 4 #[15, 26, 38, 43, 48]] 13 loc stk M) : Wq 110 cd_110 post 13 loc stk M := prefB_run ck_110 _ 13 (by decide +kernel) h
theorem b_110_15 (h : wpl (Wq 110 cd_110 post) post [.aload 0, .getfield 80831287879, .iload 1, .baload, .ifCond .eq 24, .aload 0, .iload 1, .invokevirtual 23083, .goto 25] 15 loc stk M) : Wq 110 cd_110 post 15 loc stk M := prefB_run ck_110 _ 15 (by decide +kernel) h
theorem b_110_24 (h : wpl (Wq 110 cd_110 post) post [.iconst (-1), .ret 0] 24 loc stk M) : Wq 110 cd_110 post 24 loc stk M := prefB_run ck_110 _ 24 (by decide +kernel) h
theorem b_110_25 (h : wpl (Wq 110 cd_110 post) post [.ret 0] 25 loc stk M) : Wq 110 cd_110 post 25 loc stk M := prefB_run ck_110 _ 25 (by decide +kernel) h
theorem b_110_26 (h : wpl (Wq 110 cd_110 post) post [.aload 0, .getfield 80831287879, .iload 1, .baload, .ifCond .eq 36, .aload 0, .getfield 80623211087, .iload 1, .iaload, .goto 37] 26 loc stk M) : Wq 110 cd_110 post 26 loc stk M := prefB_run ck_110 _ 26 (by decide +kernel) h
theorem b_110_36 (h : wpl (Wq 110 cd_110 post) post [.iconst (-1), .ret 0] 36 loc stk M) : Wq 110 cd_110 post 36 loc stk M := prefB_run ck_110 _ 36 (by decide +kernel) h
theorem b_110_37 (h : wpl (Wq 110 cd_110 post) post [.ret 0] 37 loc stk M) : Wq 110 cd_110 post 37 loc stk M := prefB_run ck_110 _ 37 (by decide +kernel) h
theorem b_110_38 (h : wpl (Wq 110 cd_110 post) post [.aload 0, .getfield 80603550167, .iload 1, .iaload, .ret 0] 38 loc stk M) : Wq 110 cd_110 post 38 loc stk M := prefB_run ck_110 _ 38 (by decide +kernel) h
theorem b_110_43 (h : wpl (Wq 110 cd_110 post) post [.aload 0, .getfield 80605188575, .iload 1, .iaload, .ret 0] 43 loc stk M) : Wq 110 cd_110 post 43 loc stk M := prefB_run ck_110 _ 43 (by decide +kernel) h
theorem b_110_48 (h : wpl (Wq 110 cd_110 post) post [.aload 0, .getfield 80606007779, .iload 1, .iaload, .ret 0] 48 loc stk M) : Wq 110 cd_110 post 48 loc stk M := prefB_run ck_110 _ 48 (by decide +kernel) h
theorem b_110_53 (h : wpl (Wq 110 cd_110 post) post [.iconst (-1), .ret 0] 53 loc stk M) : Wq 110 cd_110 post 53 loc stk M := prefB_run ck_110 _ 53 (by decide +kernel) h
end
/-! StaticKernelModel.row(II)I -/
set_option maxRecDepth 100000 in
theorem ck_111 : chkM (mt 111) cd_111 = true := by decide +kernel
section
variable {post : Option AV → AMem → Prop} {loc : Lc} {stk : List AV} {M : AMem}
theorem b_111_0 (h : wpl (Wq 111 cd_111 post) post [.aload 0, .iconst 0, .putfield 4400, .iload 2, .ifCond .ge 7, .iconst (-1), .ret 0] 0 loc stk M) : Wq 111 cd_111 post 0 loc stk M := prefB_run ck_111 _ 0 (by decide +kernel) h
theorem b_111_7 (h : wpl (Wq 111 cd_111 post) post [.iconst 0, .istore 3] 7 loc stk M) : Wq 111 cd_111 post 7 loc stk M := prefB_run ck_111 _ 7 (by decide +kernel) h
theorem b_111_9 (h : wpl (Wq 111 cd_111 post) post [.iload 3, .iconst 400, .if_icmp .ge 67, .aload 0, .getfield 671168926219, .iload 3, .iaload, .iconst 1, .if_icmp .ne 65, .aload 0, .getfield 671169745423, .iload 3, .iaload, .iload 1, .if_icmp .eq 25, .goto 65] 9 loc stk M) : Wq 111 cd_111 post 9 loc stk M := prefB_run ck_111 _ 9 (by decide +kernel) h
theorem b_111_25 (h : wpl (Wq 111 cd_111 post) post [.iconst 0, .istore 4, .iconst 0, .istore 5] 25 loc stk M) : Wq 111 cd_111 post 25 loc stk M := prefB_run ck_111 _ 25 (by decide +kernel) h
theorem b_111_29 (h : wpl (Wq 111 cd_111 post) post [.iload 5, .iconst 400, .if_icmp .ge 57, .iload 4, .aload 0, .getfield 671168926219, .iload 5, .iaload, .iconst 1, .if_icmp .ne 52, .aload 0, .getfield 671169745423, .iload 5, .iaload, .iload 1, .if_icmp .ne 52, .aload 0, .iload 5, .iload 3, .invokevirtual 15675, .ifCond .eq 52, .iconst 1, .goto 53] 29 loc stk M) : Wq 111 cd_111 post 29 loc stk M := prefB_run ck_111 _ 29 (by decide +kernel) h
theorem b_111_52 (h : wpl (Wq 111 cd_111 post) post [.iconst 0, .iadd, .istore 4, .iinc 5 1, .goto 29] 52 loc stk M) : Wq 111 cd_111 post 52 loc stk M := prefB_run ck_111 _ 52 (by decide +kernel) h
theorem b_111_53 (h : wpl (Wq 111 cd_111 post) post [.iadd, .istore 4, .iinc 5 1, .goto 29] 53 loc stk M) : Wq 111 cd_111 post 53 loc stk M := prefB_run ck_111 _ 53 (by decide +kernel) h
theorem b_111_57 (h : wpl (Wq 111 cd_111 post) post [.iload 4, .iload 2, .if_icmp .ne 65, .aload 0, .getfield 671168107015, .iload 3, .iaload, .ret 0] 57 loc stk M) : Wq 111 cd_111 post 57 loc stk M := prefB_run ck_111 _ 57 (by decide +kernel) h
theorem b_111_65 (h : wpl (Wq 111 cd_111 post) post [.iinc 3 1, .goto 9] 65 loc stk M) : Wq 111 cd_111 post 65 loc stk M := prefB_run ck_111 _ 65 (by decide +kernel) h
theorem b_111_67 (h : wpl (Wq 111 cd_111 post) post [.iconst (-1), .ret 0] 67 loc stk M) : Wq 111 cd_111 post 67 loc stk M := prefB_run ck_111 _ 67 (by decide +kernel) h
end
/-! StaticKernelModel.note(I)I -/
set_option maxRecDepth 100000 in
theorem ck_112 : chkM (mt 112) cd_112 = true := by decide +kernel
section
variable {post : Option AV → AMem → Prop} {loc : Lc} {stk : List AV} {M : AMem}
theorem b_112_0 (h : wpl (Wq 112 cd_112 post) post [.aload 0, .iconst 0, .putfield 4400, .iload 1, .ifCond .lt 11, .iload 1, .aload 0, .getfield 4692, .iconst 500, .invokestatic 288, .if_icmp .lt 16, .aload 0, .invokevirtual 11035, .istore 2, .iconst 0, .ret 0] 0 loc stk M) : Wq 112 cd_112 post 0 loc stk M := prefB_run ck_112 _ 0 (by decide +kernel) h
theorem b_112_11 (h : wpl (Wq 112 cd_112 post) post [.aload 0, .invokevirtual 11035, .istore 2, .iconst 0, .ret 0] 11 loc stk M) : Wq 112 cd_112 post 11 loc stk M := prefB_run ck_112 _ 11 (by decide +kernel) h
theorem b_112_16 (h : wpl (Wq 112 cd_112 post) post [.aload 0, .getfield 838954193491, .aload 0, .getfield 4692, .iconst 1, .isub, .iload 1, .isub, .iconst 500, .irem, .iaload, .ret 0] 16 loc stk M) : Wq 112 cd_112 post 16 loc stk M := prefB_run ck_112 _ 16 (by decide +kernel) h
end
/-! StaticKernelModel.count(I)I -/
set_option maxRecDepth 100000 in
theorem ck_113 : chkM (mt 113) cd_113 = true := by decide +kernel
section
variable {post : Option AV → AMem → Prop} {loc : Lc} {stk : List AV} {M : AMem}
theorem b_113_0 (h : wpl (Wq 113 cd_113 post) post [.aload 0, .iconst 0, .putfield 4400, .iconst 0, .istore 2, .iconst 0, .istore 3] 0 loc stk M) : Wq 113 cd_113 post 0 loc stk M := prefB_run ck_113 _ 0 (by decide +kernel) h
theorem b_113_7 (h : wpl (Wq 113 cd_113 post) post [.iload 3, .iconst 400, .if_icmp .ge 23, .iload 2, .aload 0, .getfield 671168926219, .iload 3, .iaload, .ifCond .ne 18, .iconst 0, .goto 19] 7 loc stk M) : Wq 113 cd_113 post 7 loc stk M := prefB_run ck_113 _ 7 (by decide +kernel) h
theorem b_113_18 (h : wpl (Wq 113 cd_113 post) post [.iconst 1, .iadd, .istore 2, .iinc 3 1, .goto 7] 18 loc stk M) : Wq 113 cd_113 post 18 loc stk M := prefB_run ck_113 _ 18 (by decide +kernel) h
theorem b_113_19 (h : wpl (Wq 113 cd_113 post) post [.iadd, .istore 2, .iinc 3 1, .goto 7] 19 loc stk M) : Wq 113 cd_113 post 19 loc stk M := prefB_run ck_113 _ 19 (by decide +kernel) h
theorem b_113_23 (h : wpl (Wq 113 cd_113 post) post [.iload 1, .tableswitch 55 0 8 #[25, 28, 35, 38, 41, 44, 46, 49, 52]] 23 loc stk M) : Wq 113 cd_113 post 23 loc stk M := prefB_run ck_113 _ 23 (by decide +kernel) h
theorem b_113_25 (h : wpl (Wq 113 cd_113 post) post [.aload 0, .getfield 4408, .ret 0] 25 loc stk M) : Wq 113 cd_113 post 25 loc stk M := prefB_run ck_113 _ 25 (by decide +kernel) h
theorem b_113_28 (h : wpl (Wq 113 cd_113 post) post [.aload 0, .getfield 4601, .ifCond .eq 33, .iconst 1, .goto 34] 28 loc stk M) : Wq 113 cd_113 post 28 loc stk M := prefB_run ck_113 _ 28 (by decide +kernel) h
theorem b_113_33 (h : wpl (Wq 113 cd_113 post) post [.iconst 0, .ret 0] 33 loc stk M) : Wq 113 cd_113 post 33 loc stk M := prefB_run ck_113 _ 33 (by decide +kernel) h
theorem b_113_34 (h : wpl (Wq 113 cd_113 post) post [.ret 0] 34 loc stk M) : Wq 113 cd_113 post 34 loc stk M := prefB_run ck_113 _ 34 (by decide +kernel) h
theorem b_113_35 (h : wpl (Wq 113 cd_113 post) post [.aload 0, .getfield 4604, .ret 0] 35 loc stk M) : Wq 113 cd_113 post 35 loc stk M := prefB_run ck_113 _ 35 (by decide +kernel) h
theorem b_113_38 (h : wpl (Wq 113 cd_113 post) post [.aload 0, .getfield 4608, .ret 0] 38 loc stk M) : Wq 113 cd_113 post 38 loc stk M := prefB_run ck_113 _ 38 (by decide +kernel) h
theorem b_113_41 (h : wpl (Wq 113 cd_113 post) post [.aload 0, .getfield 4660, .ret 0] 41 loc stk M) : Wq 113 cd_113 post 41 loc stk M := prefB_run ck_113 _ 41 (by decide +kernel) h
theorem b_113_44 (h : wpl (Wq 113 cd_113 post) post [.iload 2, .ret 0] 44 loc stk M) : Wq 113 cd_113 post 44 loc stk M := prefB_run ck_113 _ 44 (by decide +kernel) h
theorem b_113_46 (h : wpl (Wq 113 cd_113 post) post [.aload 0, .getfield 4692, .ret 0] 46 loc stk M) : Wq 113 cd_113 post 46 loc stk M := prefB_run ck_113 _ 46 (by decide +kernel) h
theorem b_113_49 (h : wpl (Wq 113 cd_113 post) post [.aload 0, .getfield 4696, .ret 0] 49 loc stk M) : Wq 113 cd_113 post 49 loc stk M := prefB_run ck_113 _ 49 (by decide +kernel) h
theorem b_113_52 (h : wpl (Wq 113 cd_113 post) post [.aload 0, .getfield 4700, .ret 0] 52 loc stk M) : Wq 113 cd_113 post 52 loc stk M := prefB_run ck_113 _ 52 (by decide +kernel) h
theorem b_113_55 (h : wpl (Wq 113 cd_113 post) post [.iconst (-1), .ret 0] 55 loc stk M) : Wq 113 cd_113 post 55 loc stk M := prefB_run ck_113 _ 55 (by decide +kernel) h
end
