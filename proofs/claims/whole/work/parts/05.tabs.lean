/-! ===== the tables hold together ===== -/
set_option maxRecDepth 100000 in
theorem tb_im_1 : ∀ w ∈ u_ws (oC 1) (oT 1) (oN 1), w ∈ lw_tbl := by decide +kernel
theorem tb_in_1 : ∀ w ∈ u_ws (oC 1) (oT 1) (oN 1), w ∈ lwg := fun w hw => List.mem_filter.mpr ⟨tb_im_1 w hw, List.all_eq_true.mp (show (u_ws (oC 1) (oT 1) (oN 1)).all goodWord = true by decide +kernel) w hw⟩
theorem tb_ty_1 : ∀ k, k < oN 1 → parseFieldDescriptor (oT 1 k).2.2.1 = some (oY 1 k) := by decide +kernel
theorem tb_nm_1 : ∀ a, a < oN 1 → ∀ b, b < oN 1 → a ≠ b → (oT 1 a).2.1 ≠ (oT 1 b).2.1 := by decide +kernel
set_option maxRecDepth 100000 in
theorem tb_im_2 : ∀ w ∈ u_ws (oC 2) (oT 2) (oN 2), w ∈ lw_tbl := by decide +kernel
theorem tb_in_2 : ∀ w ∈ u_ws (oC 2) (oT 2) (oN 2), w ∈ lwg := fun w hw => List.mem_filter.mpr ⟨tb_im_2 w hw, List.all_eq_true.mp (show (u_ws (oC 2) (oT 2) (oN 2)).all goodWord = true by decide +kernel) w hw⟩
theorem tb_ty_2 : ∀ k, k < oN 2 → parseFieldDescriptor (oT 2 k).2.2.1 = some (oY 2 k) := by decide +kernel
theorem tb_nm_2 : ∀ a, a < oN 2 → ∀ b, b < oN 2 → a ≠ b → (oT 2 a).2.1 ≠ (oT 2 b).2.1 := by decide +kernel
set_option maxRecDepth 100000 in
theorem tb_im_3 : ∀ w ∈ u_ws (oC 3) (oT 3) (oN 3), w ∈ lw_tbl := by decide +kernel
theorem tb_in_3 : ∀ w ∈ u_ws (oC 3) (oT 3) (oN 3), w ∈ lwg := fun w hw => List.mem_filter.mpr ⟨tb_im_3 w hw, List.all_eq_true.mp (show (u_ws (oC 3) (oT 3) (oN 3)).all goodWord = true by decide +kernel) w hw⟩
theorem tb_ty_3 : ∀ k, k < oN 3 → parseFieldDescriptor (oT 3 k).2.2.1 = some (oY 3 k) := by decide +kernel
theorem tb_nm_3 : ∀ a, a < oN 3 → ∀ b, b < oN 3 → a ≠ b → (oT 3 a).2.1 ≠ (oT 3 b).2.1 := by decide +kernel
set_option maxRecDepth 100000 in
theorem tb_im_4 : ∀ w ∈ u_ws (oC 4) (oT 4) (oN 4), w ∈ lw_tbl := by decide +kernel
theorem tb_in_4 : ∀ w ∈ u_ws (oC 4) (oT 4) (oN 4), w ∈ lwg := fun w hw => List.mem_filter.mpr ⟨tb_im_4 w hw, List.all_eq_true.mp (show (u_ws (oC 4) (oT 4) (oN 4)).all goodWord = true by decide +kernel) w hw⟩
theorem tb_ty_4 : ∀ k, k < oN 4 → parseFieldDescriptor (oT 4 k).2.2.1 = some (oY 4 k) := by decide +kernel
theorem tb_nm_4 : ∀ a, a < oN 4 → ∀ b, b < oN 4 → a ≠ b → (oT 4 a).2.1 ≠ (oT 4 b).2.1 := by decide +kernel
set_option maxRecDepth 100000 in
theorem tb_im_5 : ∀ w ∈ u_ws (oC 5) (oT 5) (oN 5), w ∈ lw_tbl := by decide +kernel
theorem tb_in_5 : ∀ w ∈ u_ws (oC 5) (oT 5) (oN 5), w ∈ lwg := fun w hw => List.mem_filter.mpr ⟨tb_im_5 w hw, List.all_eq_true.mp (show (u_ws (oC 5) (oT 5) (oN 5)).all goodWord = true by decide +kernel) w hw⟩
theorem tb_ty_5 : ∀ k, k < oN 5 → parseFieldDescriptor (oT 5 k).2.2.1 = some (oY 5 k) := by decide +kernel
theorem tb_nm_5 : ∀ a, a < oN 5 → ∀ b, b < oN 5 → a ≠ b → (oT 5 a).2.1 ≠ (oT 5 b).2.1 := by decide +kernel
set_option maxRecDepth 100000 in
theorem tb_im_6 : ∀ w ∈ u_ws (oC 6) (oT 6) (oN 6), w ∈ lw_tbl := by decide +kernel
theorem tb_in_6 : ∀ w ∈ u_ws (oC 6) (oT 6) (oN 6), w ∈ lwg := fun w hw => List.mem_filter.mpr ⟨tb_im_6 w hw, List.all_eq_true.mp (show (u_ws (oC 6) (oT 6) (oN 6)).all goodWord = true by decide +kernel) w hw⟩
theorem tb_ty_6 : ∀ k, k < oN 6 → parseFieldDescriptor (oT 6 k).2.2.1 = some (oY 6 k) := by decide +kernel
theorem tb_nm_6 : ∀ a, a < oN 6 → ∀ b, b < oN 6 → a ≠ b → (oT 6 a).2.1 ≠ (oT 6 b).2.1 := by decide +kernel
set_option maxRecDepth 100000 in
theorem tb_im_7 : ∀ w ∈ u_ws (oC 7) (oT 7) (oN 7), w ∈ lw_tbl := by decide +kernel
theorem tb_in_7 : ∀ w ∈ u_ws (oC 7) (oT 7) (oN 7), w ∈ lwg := fun w hw => List.mem_filter.mpr ⟨tb_im_7 w hw, List.all_eq_true.mp (show (u_ws (oC 7) (oT 7) (oN 7)).all goodWord = true by decide +kernel) w hw⟩
theorem tb_ty_7 : ∀ k, k < oN 7 → parseFieldDescriptor (oT 7 k).2.2.1 = some (oY 7 k) := by decide +kernel
theorem tb_nm_7 : ∀ a, a < oN 7 → ∀ b, b < oN 7 → a ≠ b → (oT 7 a).2.1 ≠ (oT 7 b).2.1 := by decide +kernel
set_option maxRecDepth 100000 in
theorem tb_im_8 : ∀ w ∈ u_ws (oC 8) (oT 8) (oN 8), w ∈ lw_tbl := by decide +kernel
theorem tb_in_8 : ∀ w ∈ u_ws (oC 8) (oT 8) (oN 8), w ∈ lwg := fun w hw => List.mem_filter.mpr ⟨tb_im_8 w hw, List.all_eq_true.mp (show (u_ws (oC 8) (oT 8) (oN 8)).all goodWord = true by decide +kernel) w hw⟩
theorem tb_ty_8 : ∀ k, k < oN 8 → parseFieldDescriptor (oT 8 k).2.2.1 = some (oY 8 k) := by decide +kernel
theorem tb_nm_8 : ∀ a, a < oN 8 → ∀ b, b < oN 8 → a ≠ b → (oT 8 a).2.1 ≠ (oT 8 b).2.1 := by decide +kernel
set_option maxRecDepth 100000 in
theorem tb_im_9 : ∀ w ∈ u_ws (oC 9) (oT 9) (oN 9), w ∈ lw_tbl := by decide +kernel
theorem tb_in_9 : ∀ w ∈ u_ws (oC 9) (oT 9) (oN 9), w ∈ lwg := fun w hw => List.mem_filter.mpr ⟨tb_im_9 w hw, List.all_eq_true.mp (show (u_ws (oC 9) (oT 9) (oN 9)).all goodWord = true by decide +kernel) w hw⟩
theorem tb_ty_9 : ∀ k, k < oN 9 → parseFieldDescriptor (oT 9 k).2.2.1 = some (oY 9 k) := by decide +kernel
theorem tb_nm_9 : ∀ a, a < oN 9 → ∀ b, b < oN 9 → a ≠ b → (oT 9 a).2.1 ≠ (oT 9 b).2.1 := by decide +kernel
set_option maxRecDepth 100000 in
theorem tb_im_10 : ∀ w ∈ u_ws (oC 10) (oT 10) (oN 10), w ∈ lw_tbl := by decide +kernel
theorem tb_in_10 : ∀ w ∈ u_ws (oC 10) (oT 10) (oN 10), w ∈ lwg := fun w hw => List.mem_filter.mpr ⟨tb_im_10 w hw, List.all_eq_true.mp (show (u_ws (oC 10) (oT 10) (oN 10)).all goodWord = true by decide +kernel) w hw⟩
theorem tb_ty_10 : ∀ k, k < oN 10 → parseFieldDescriptor (oT 10 k).2.2.1 = some (oY 10 k) := by decide +kernel
theorem tb_nm_10 : ∀ a, a < oN 10 → ∀ b, b < oN 10 → a ≠ b → (oT 10 a).2.1 ≠ (oT 10 b).2.1 := by decide +kernel
set_option maxRecDepth 100000 in
theorem tb_im_11 : ∀ w ∈ u_ws (oC 11) (oT 11) (oN 11), w ∈ lw_tbl := by decide +kernel
theorem tb_in_11 : ∀ w ∈ u_ws (oC 11) (oT 11) (oN 11), w ∈ lwg := fun w hw => List.mem_filter.mpr ⟨tb_im_11 w hw, List.all_eq_true.mp (show (u_ws (oC 11) (oT 11) (oN 11)).all goodWord = true by decide +kernel) w hw⟩
theorem tb_ty_11 : ∀ k, k < oN 11 → parseFieldDescriptor (oT 11 k).2.2.1 = some (oY 11 k) := by decide +kernel
theorem tb_nm_11 : ∀ a, a < oN 11 → ∀ b, b < oN 11 → a ≠ b → (oT 11 a).2.1 ≠ (oT 11 b).2.1 := by decide +kernel
theorem tb_in {g : Nat} (h : isO g) : ∀ w ∈ u_ws (oC g) (oT g) (oN g), w ∈ lwg := by
  unfold isO at h
  rcases (show g = 1 ∨ g = 2 ∨ g = 3 ∨ g = 4 ∨ g = 5 ∨ g = 6 ∨ g = 7 ∨ g = 8 ∨ g = 9 ∨ g = 10 ∨ g = 11 by omega) with rfl | rfl | rfl | rfl | rfl | rfl | rfl | rfl | rfl | rfl | rfl
  · exact tb_in_1
  · exact tb_in_2
  · exact tb_in_3
  · exact tb_in_4
  · exact tb_in_5
  · exact tb_in_6
  · exact tb_in_7
  · exact tb_in_8
  · exact tb_in_9
  · exact tb_in_10
  · exact tb_in_11
theorem tb_ty {g : Nat} (h : isO g) : ∀ k, k < oN g → parseFieldDescriptor (oT g k).2.2.1 = some (oY g k) := by
  unfold isO at h
  rcases (show g = 1 ∨ g = 2 ∨ g = 3 ∨ g = 4 ∨ g = 5 ∨ g = 6 ∨ g = 7 ∨ g = 8 ∨ g = 9 ∨ g = 10 ∨ g = 11 by omega) with rfl | rfl | rfl | rfl | rfl | rfl | rfl | rfl | rfl | rfl | rfl
  · exact tb_ty_1
  · exact tb_ty_2
  · exact tb_ty_3
  · exact tb_ty_4
  · exact tb_ty_5
  · exact tb_ty_6
  · exact tb_ty_7
  · exact tb_ty_8
  · exact tb_ty_9
  · exact tb_ty_10
  · exact tb_ty_11
theorem tb_nm {g : Nat} (h : isO g) : ∀ a, a < oN g → ∀ b, b < oN g → a ≠ b → (oT g a).2.1 ≠ (oT g b).2.1 := by
  unfold isO at h
  rcases (show g = 1 ∨ g = 2 ∨ g = 3 ∨ g = 4 ∨ g = 5 ∨ g = 6 ∨ g = 7 ∨ g = 8 ∨ g = 9 ∨ g = 10 ∨ g = 11 by omega) with rfl | rfl | rfl | rfl | rfl | rfl | rfl | rfl | rfl | rfl | rfl
  · exact tb_nm_1
  · exact tb_nm_2
  · exact tb_nm_3
  · exact tb_nm_4
  · exact tb_nm_5
  · exact tb_nm_6
  · exact tb_nm_7
  · exact tb_nm_8
  · exact tb_nm_9
  · exact tb_nm_10
  · exact tb_nm_11
theorem tb_big : ∀ g ∈ gOwn ++ gCon, 14 < g := by decide +kernel
theorem tb_k0 : ∀ g ∈ gOwn ++ gCon, gk g = 0 → aY g = .int := by decide +kernel
theorem tb_k1 : ∀ g ∈ gOwn ++ gCon, gk g = 1 → aY g = .boolean := by decide +kernel
theorem tb_k2 : ∀ g ∈ gOwn ++ gCon, gk g = 2 → aY g = .long := by decide +kernel
theorem tb_k3 : ∀ g ∈ gOwn ++ gCon, gk g = 3 → (aY g).isReference = true := by decide +kernel
theorem tb_k4 : ∀ g ∈ gOwn ++ gCon, gk g = 4 → aY g = .byte := by decide +kernel
theorem tb_k5 : ∀ g ∈ gOwn ++ gCon, gk g = 5 → aY g = .char := by decide +kernel
theorem tb_kl : ∀ g ∈ gOwn ++ gCon, gl g < 2 ^ 31 := by decide +kernel
theorem tb_con : ∀ g ∈ gCon, 120 ≤ g % 256 := by decide +kernel
theorem tb_own : ∀ g ∈ gOwn, g % 256 < 120 := by decide +kernel
