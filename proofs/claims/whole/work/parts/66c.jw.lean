/-! ===== the reference's ticks leave the waiting ticks alone (by program: wip/whole/gen/jw.py) ===== -/
def jw (W : Int → Int → Int) (B : AMem) : AMem := fun g t i => if g = 32878 then W t i else B g t i
theorem jwr {W : Int → Int → Int} {B : AMem} {g : Nat} (h : ¬ g = 32878) (t i : Int) : jw W B g t i = B g t i := if_neg h
theorem jwm {W : Int → Int → Int} {B : AMem} {g : Nat} (h : ¬ g = 32878) (t i v : Int) : mup (jw W B) g t i v = jw W (mup B g t i v) := by
  funext a b c
  unfold jw mup
  by_cases e : a = g ∧ b = t ∧ c = i
  · rw [if_pos e, e.1, if_neg h, if_pos ⟨rfl, e.2.1, e.2.2⟩]
  · rw [if_neg e, if_neg e]
theorem jwi {W : Int → Int → Int} {B B' : AMem} {c : Prop} [Decidable c] : (if c then jw W B else jw W B') = jw W (if c then B else B') := by split <;> rfl
theorem jw_11 {W : Int → Int → Int} {B : AMem} (t i : Int) : jw W B 11 t i = B 11 t i := jwr (by decide) t i
theorem mw_11 {W : Int → Int → Int} {B : AMem} (t i v : Int) : mup (jw W B) 11 t i v = jw W (mup B 11 t i v) := jwm (by decide) t i v
theorem jw_14408 {W : Int → Int → Int} {B : AMem} (t i : Int) : jw W B 14408 t i = B 14408 t i := jwr (by decide) t i
theorem mw_14408 {W : Int → Int → Int} {B : AMem} (t i v : Int) : mup (jw W B) 14408 t i v = jw W (mup B 14408 t i v) := jwm (by decide) t i v
theorem jw_32846 {W : Int → Int → Int} {B : AMem} (t i : Int) : jw W B 32846 t i = B 32846 t i := jwr (by decide) t i
theorem mw_32846 {W : Int → Int → Int} {B : AMem} (t i v : Int) : mup (jw W B) 32846 t i v = jw W (mup B 32846 t i v) := jwm (by decide) t i v
theorem jw_32847 {W : Int → Int → Int} {B : AMem} (t i : Int) : jw W B 32847 t i = B 32847 t i := jwr (by decide) t i
theorem mw_32847 {W : Int → Int → Int} {B : AMem} (t i v : Int) : mup (jw W B) 32847 t i v = jw W (mup B 32847 t i v) := jwm (by decide) t i v
theorem jw_32855 {W : Int → Int → Int} {B : AMem} (t i : Int) : jw W B 32855 t i = B 32855 t i := jwr (by decide) t i
theorem mw_32855 {W : Int → Int → Int} {B : AMem} (t i v : Int) : mup (jw W B) 32855 t i v = jw W (mup B 32855 t i v) := jwm (by decide) t i v
theorem jw_32875 {W : Int → Int → Int} {B : AMem} (t i : Int) : jw W B 32875 t i = B 32875 t i := jwr (by decide) t i
theorem mw_32875 {W : Int → Int → Int} {B : AMem} (t i v : Int) : mup (jw W B) 32875 t i v = jw W (mup B 32875 t i v) := jwm (by decide) t i v
theorem jw_32876 {W : Int → Int → Int} {B : AMem} (t i : Int) : jw W B 32876 t i = B 32876 t i := jwr (by decide) t i
theorem mw_32876 {W : Int → Int → Int} {B : AMem} (t i v : Int) : mup (jw W B) 32876 t i v = jw W (mup B 32876 t i v) := jwm (by decide) t i v
theorem jw_32877 {W : Int → Int → Int} {B : AMem} (t i : Int) : jw W B 32877 t i = B 32877 t i := jwr (by decide) t i
theorem mw_32877 {W : Int → Int → Int} {B : AMem} (t i v : Int) : mup (jw W B) 32877 t i v = jw W (mup B 32877 t i v) := jwm (by decide) t i v
theorem jw_33130 {W : Int → Int → Int} {B : AMem} (t i : Int) : jw W B 33130 t i = B 33130 t i := jwr (by decide) t i
theorem mw_33130 {W : Int → Int → Int} {B : AMem} (t i v : Int) : mup (jw W B) 33130 t i v = jw W (mup B 33130 t i v) := jwm (by decide) t i v
theorem jw_65613 {W : Int → Int → Int} {B : AMem} (t i : Int) : jw W B 65613 t i = B 65613 t i := jwr (by decide) t i
theorem mw_65613 {W : Int → Int → Int} {B : AMem} (t i v : Int) : mup (jw W B) 65613 t i v = jw W (mup B 65613 t i v) := jwm (by decide) t i v
theorem jw_65639 {W : Int → Int → Int} {B : AMem} (t i : Int) : jw W B 65639 t i = B 65639 t i := jwr (by decide) t i
theorem mw_65639 {W : Int → Int → Int} {B : AMem} (t i v : Int) : mup (jw W B) 65639 t i v = jw W (mup B 65639 t i v) := jwm (by decide) t i v
theorem jw_65867 {W : Int → Int → Int} {B : AMem} (t i : Int) : jw W B 65867 t i = B 65867 t i := jwr (by decide) t i
theorem mw_65867 {W : Int → Int → Int} {B : AMem} (t i v : Int) : mup (jw W B) 65867 t i v = jw W (mup B 65867 t i v) := jwm (by decide) t i v
theorem jw_98385 {W : Int → Int → Int} {B : AMem} (t i : Int) : jw W B 98385 t i = B 98385 t i := jwr (by decide) t i
theorem mw_98385 {W : Int → Int → Int} {B : AMem} (t i v : Int) : mup (jw W B) 98385 t i v = jw W (mup B 98385 t i v) := jwm (by decide) t i v
theorem jw_98387 {W : Int → Int → Int} {B : AMem} (t i : Int) : jw W B 98387 t i = B 98387 t i := jwr (by decide) t i
theorem mw_98387 {W : Int → Int → Int} {B : AMem} (t i v : Int) : mup (jw W B) 98387 t i v = jw W (mup B 98387 t i v) := jwm (by decide) t i v
theorem jw_98388 {W : Int → Int → Int} {B : AMem} (t i : Int) : jw W B 98388 t i = B 98388 t i := jwr (by decide) t i
theorem mw_98388 {W : Int → Int → Int} {B : AMem} (t i v : Int) : mup (jw W B) 98388 t i v = jw W (mup B 98388 t i v) := jwm (by decide) t i v
theorem jw_98390 {W : Int → Int → Int} {B : AMem} (t i : Int) : jw W B 98390 t i = B 98390 t i := jwr (by decide) t i
theorem mw_98390 {W : Int → Int → Int} {B : AMem} (t i v : Int) : mup (jw W B) 98390 t i v = jw W (mup B 98390 t i v) := jwm (by decide) t i v
theorem jw_98393 {W : Int → Int → Int} {B : AMem} (t i : Int) : jw W B 98393 t i = B 98393 t i := jwr (by decide) t i
theorem mw_98393 {W : Int → Int → Int} {B : AMem} (t i v : Int) : mup (jw W B) 98393 t i v = jw W (mup B 98393 t i v) := jwm (by decide) t i v
theorem jw_98394 {W : Int → Int → Int} {B : AMem} (t i : Int) : jw W B 98394 t i = B 98394 t i := jwr (by decide) t i
theorem mw_98394 {W : Int → Int → Int} {B : AMem} (t i v : Int) : mup (jw W B) 98394 t i v = jw W (mup B 98394 t i v) := jwm (by decide) t i v
theorem jw_98395 {W : Int → Int → Int} {B : AMem} (t i : Int) : jw W B 98395 t i = B 98395 t i := jwr (by decide) t i
theorem mw_98395 {W : Int → Int → Int} {B : AMem} (t i v : Int) : mup (jw W B) 98395 t i v = jw W (mup B 98395 t i v) := jwm (by decide) t i v
theorem jw_98396 {W : Int → Int → Int} {B : AMem} (t i : Int) : jw W B 98396 t i = B 98396 t i := jwr (by decide) t i
theorem mw_98396 {W : Int → Int → Int} {B : AMem} (t i v : Int) : mup (jw W B) 98396 t i v = jw W (mup B 98396 t i v) := jwm (by decide) t i v
theorem jw_98406 {W : Int → Int → Int} {B : AMem} (t i : Int) : jw W B 98406 t i = B 98406 t i := jwr (by decide) t i
theorem mw_98406 {W : Int → Int → Int} {B : AMem} (t i v : Int) : mup (jw W B) 98406 t i v = jw W (mup B 98406 t i v) := jwm (by decide) t i v
theorem jw_98416 {W : Int → Int → Int} {B : AMem} (t i : Int) : jw W B 98416 t i = B 98416 t i := jwr (by decide) t i
theorem mw_98416 {W : Int → Int → Int} {B : AMem} (t i v : Int) : mup (jw W B) 98416 t i v = jw W (mup B 98416 t i v) := jwm (by decide) t i v
theorem jw_98417 {W : Int → Int → Int} {B : AMem} (t i : Int) : jw W B 98417 t i = B 98417 t i := jwr (by decide) t i
theorem mw_98417 {W : Int → Int → Int} {B : AMem} (t i v : Int) : mup (jw W B) 98417 t i v = jw W (mup B 98417 t i v) := jwm (by decide) t i v
theorem jw_98642 {W : Int → Int → Int} {B : AMem} (t i : Int) : jw W B 98642 t i = B 98642 t i := jwr (by decide) t i
theorem mw_98642 {W : Int → Int → Int} {B : AMem} (t i v : Int) : mup (jw W B) 98642 t i v = jw W (mup B 98642 t i v) := jwm (by decide) t i v
theorem jw_98671 {W : Int → Int → Int} {B : AMem} (t i : Int) : jw W B 98671 t i = B 98671 t i := jwr (by decide) t i
theorem mw_98671 {W : Int → Int → Int} {B : AMem} (t i v : Int) : mup (jw W B) 98671 t i v = jw W (mup B 98671 t i v) := jwm (by decide) t i v
theorem jw_819297 {W : Int → Int → Int} {B : AMem} (t i : Int) : jw W B 819297 t i = B 819297 t i := jwr (by decide) t i
theorem mw_819297 {W : Int → Int → Int} {B : AMem} (t i v : Int) : mup (jw W B) 819297 t i v = jw W (mup B 819297 t i v) := jwm (by decide) t i v
theorem jw_819298 {W : Int → Int → Int} {B : AMem} (t i : Int) : jw W B 819298 t i = B 819298 t i := jwr (by decide) t i
theorem mw_819298 {W : Int → Int → Int} {B : AMem} (t i v : Int) : mup (jw W B) 819298 t i v = jw W (mup B 819298 t i v) := jwm (by decide) t i v
theorem jw_819299 {W : Int → Int → Int} {B : AMem} (t i : Int) : jw W B 819299 t i = B 819299 t i := jwr (by decide) t i
theorem mw_819299 {W : Int → Int → Int} {B : AMem} (t i v : Int) : mup (jw W B) 819299 t i v = jw W (mup B 819299 t i v) := jwm (by decide) t i v
theorem jw_819301 {W : Int → Int → Int} {B : AMem} (t i : Int) : jw W B 819301 t i = B 819301 t i := jwr (by decide) t i
theorem mw_819301 {W : Int → Int → Int} {B : AMem} (t i v : Int) : mup (jw W B) 819301 t i v = jw W (mup B 819301 t i v) := jwm (by decide) t i v
theorem jw_819561 {W : Int → Int → Int} {B : AMem} (t i : Int) : jw W B 819561 t i = B 819561 t i := jwr (by decide) t i
theorem mw_819561 {W : Int → Int → Int} {B : AMem} (t i v : Int) : mup (jw W B) 819561 t i v = jw W (mup B 819561 t i v) := jwm (by decide) t i v
theorem jw_819812 {W : Int → Int → Int} {B : AMem} (t i : Int) : jw W B 819812 t i = B 819812 t i := jwr (by decide) t i
theorem mw_819812 {W : Int → Int → Int} {B : AMem} (t i v : Int) : mup (jw W B) 819812 t i v = jw W (mup B 819812 t i v) := jwm (by decide) t i v
theorem jw_1024114 {W : Int → Int → Int} {B : AMem} (t i : Int) : jw W B 1024114 t i = B 1024114 t i := jwr (by decide) t i
theorem mw_1024114 {W : Int → Int → Int} {B : AMem} (t i v : Int) : mup (jw W B) 1024114 t i v = jw W (mup B 1024114 t i v) := jwm (by decide) t i v
theorem cq_jw (W : Int → Int → Int) (B : AMem) (t : Int) : ∀ n, cq (jw W B) t n = cq B t n
  | 0 => by first | rfl | (unfold cq; simp only [jw_819297, mw_819297, jw_819298, mw_819298, jwi]; done) | (unfold cq; simp only [jw_819297, mw_819297, jw_819298, mw_819298, jwi]; rfl)
  | n + 1 => by
    have ih := cq_jw W B t n
    unfold cq
    first | (simp only [jw_819297, mw_819297, jw_819298, mw_819298, jwi, ih]; done) | (simp only [jw_819297, mw_819297, jw_819298, mw_819298, jwi, ih]; rfl)
theorem rn_jw (W : Int → Int → Int) (B : AMem)  : rn (jw W B) = rn B := by
  unfold rn
  first | (simp only [jw_819298, mw_819298, jwi]; done) | (simp only [jw_819298, mw_819298, jwi]; rfl) | rfl
theorem iw_jw (W : Int → Int → Int) (B : AMem)  : iw (jw W B) = iw B := by
  unfold iw
  first | (simp only [jw_11, mw_11, jw_14408, mw_14408, jw_32875, mw_32875, jwi]; done) | (simp only [jw_11, mw_11, jw_14408, mw_14408, jw_32875, mw_32875, jwi]; rfl) | rfl
theorem MB_jw (W : Int → Int → Int) (B : AMem)  : MB (jw W B) = MB B := by
  unfold MB
  first | (simp only [jw_14408, mw_14408, jwi]; done) | (simp only [jw_14408, mw_14408, jwi]; rfl) | rfl
theorem wk_jw (W : Int → Int → Int) (B : AMem)  : wk (jw W B) = wk B := by
  unfold wk
  first | (simp only [jwi, rn_jw, iw_jw]; done) | (simp only [jwi, rn_jw, iw_jw]; rfl) | rfl
theorem inn_jw (W : Int → Int → Int) (B : AMem) (t : Int) : inn (jw W B) t = inn B t := by
  unfold inn
  first | (simp only [jw_14408, mw_14408, jw_65867, mw_65867, jw_98390, mw_98390, jwi]; done) | (simp only [jw_14408, mw_14408, jw_65867, mw_65867, jw_98390, mw_98390, jwi]; rfl) | rfl
theorem mrs_jw (W : Int → Int → Int) (B : AMem)  : mrs (jw W B) = mrs B := by
  unfold mrs
  first | (simp only [jw_14408, mw_14408, jwi]; done) | (simp only [jw_14408, mw_14408, jwi]; rfl) | rfl
theorem cpf_jw (W : Int → Int → Int) (B : AMem) (w : Int) : ∀ n p_, cpf (jw W B) w n p_ = cpf B w n p_
  | 0, p_ => by first | rfl | (unfold cpf; simp only [jw_65613, mw_65613, jw_65639, mw_65639, jwi]; done)
  | n + 1, p_ => by
    have ih := fun p_ => cpf_jw W B w n p_
    unfold cpf
    first | (simp only [jw_65613, mw_65613, jw_65639, mw_65639, jwi, ih]; done) | (simp only [jw_65613, mw_65613, jw_65639, mw_65639, jwi, ih]; rfl)
theorem opr_jw (W : Int → Int → Int) (B : AMem) (w : Int) : opr (jw W B) w = opr B w := by
  unfold opr
  first | (simp only [jw_32855, mw_32855, jw_98385, mw_98385, jw_819297, mw_819297, jwi]; done) | (simp only [jw_32855, mw_32855, jw_98385, mw_98385, jw_819297, mw_819297, jwi]; rfl) | rfl
theorem cpr_jw (W : Int → Int → Int) (B : AMem) (w : Int) : cpr (jw W B) w = cpr B w := by
  unfold cpr
  first | (simp only [jw_65613, mw_65613, jw_819297, mw_819297, jw_819561, mw_819561, jwi, inn_jw, mrs_jw, cpf_jw, opr_jw]; done) | (simp only [jw_65613, mw_65613, jw_819297, mw_819297, jw_819561, mw_819561, jwi, inn_jw, mrs_jw, cpf_jw, opr_jw]; rfl) | rfl
theorem topf_jw (W : Int → Int → Int) (B : AMem)  : ∀ n, topf (jw W B) n = topf B n
  | 0 => by first | rfl | (unfold topf; simp only [jw_819298, mw_819298, jw_819299, mw_819299, jw_819812, mw_819812, jwi]; done) | (unfold topf; simp only [jw_819298, mw_819298, jw_819299, mw_819299, jw_819812, mw_819812, jwi]; rfl)
  | n + 1 => by
    have ih := topf_jw W B  n
    unfold topf
    first | (simp only [jw_819298, mw_819298, jw_819299, mw_819299, jw_819812, mw_819812, jwi, ih]; done) | (simp only [jw_819298, mw_819298, jw_819299, mw_819299, jw_819812, mw_819812, jwi, ih]; rfl)
theorem nt_jw (W : Int → Int → Int) (B : AMem) (v : Int) : nt (jw W B) v = jw W (nt B v) := by
  unfold nt
  first | (simp only [jw_11, mw_11, jw_1024114, mw_1024114, jwi]; done) | (simp only [jw_11, mw_11, jw_1024114, mw_1024114, jwi]; rfl) | rfl
theorem clast_jw (W : Int → Int → Int) (B : AMem) (q : Int) : clast (jw W B) q = jw W (clast B q) := by
  unfold clast
  first | (simp only [jw_11, mw_11, jw_98385, mw_98385, jw_819297, mw_819297, jw_819298, mw_819298, jw_819299, mw_819299, jw_819812, mw_819812, jwi]; done) | (simp only [jw_11, mw_11, jw_98385, mw_98385, jw_819297, mw_819297, jw_819298, mw_819298, jw_819299, mw_819299, jw_819812, mw_819812, jwi]; rfl) | rfl
theorem fq_jw (W : Int → Int → Int) (B : AMem)  : fq (jw W B) = fq B := by
  unfold fq
  first | (simp only [jw_819298, mw_819298, jwi]; done) | (simp only [jw_819298, mw_819298, jwi]; rfl) | rfl
theorem rqs_jw (W : Int → Int → Int) (B : AMem) (t : Int) : rqs (jw W B) t = jw W (rqs B t) := by
  unfold rqs
  first | (simp only [jw_98388, mw_98388, jw_98406, mw_98406, jw_819297, mw_819297, jw_819561, mw_819561, jwi, cq_jw, clast_jw, fq_jw]; done) | (simp only [jw_98388, mw_98388, jw_98406, mw_98406, jw_819297, mw_819297, jw_819561, mw_819561, jwi, cq_jw, clast_jw, fq_jw]; rfl) | rfl
theorem SM_jw (W : Int → Int → Int) (B : AMem)  : SM (jw W B) = SM B := by
  unfold SM
  first | (simp only [jw_11, mw_11, jwi]; done) | (simp only [jw_11, mw_11, jwi]; rfl) | rfl
theorem pre_jw (W : Int → Int → Int) (B : AMem) (q : Int) : pre (jw W B) q = jw W (pre B q) := by
  unfold pre
  first | (simp only [jw_11, mw_11, jw_819297, mw_819297, jw_819298, mw_819298, jw_819299, mw_819299, jw_819812, mw_819812, jwi, cpr_jw, nt_jw]; done) | (simp only [jw_11, mw_11, jw_819297, mw_819297, jw_819298, mw_819298, jw_819299, mw_819299, jw_819812, mw_819812, jwi, cpr_jw, nt_jw]; rfl) | rfl
theorem rns_jw (W : Int → Int → Int) (B : AMem) (q : Int) : rns (jw W B) q = jw W (rns B q) := by
  unfold rns
  first | (simp only [jw_819297, mw_819297, jw_819298, mw_819298, jw_819561, mw_819561, jwi, inn_jw, nt_jw]; done) | (simp only [jw_819297, mw_819297, jw_819298, mw_819298, jw_819561, mw_819561, jwi, inn_jw, nt_jw]; rfl) | rfl
theorem bsd_jw (W : Int → Int → Int) (B : AMem) (w : Int) (p : Int) : ∀ n p_, bsd (jw W B) w p n p_ = bsd B w p n p_
  | 0, p_ => by first | rfl | (unfold bsd; simp only [jw_32855, mw_32855, jw_33130, mw_33130, jwi]; done)
  | n + 1, p_ => by
    have ih := fun p_ => bsd_jw W B w p n p_
    unfold bsd
    first | (simp only [jw_32855, mw_32855, jw_33130, mw_33130, jwi, ih]; done) | (simp only [jw_32855, mw_32855, jw_33130, mw_33130, jwi, ih]; rfl)
theorem bst_jw (W : Int → Int → Int) (B : AMem)  : bst (jw W B) = bst B := by
  unfold bst
  first | (simp only [jw_14408, mw_14408, jwi, wk_jw, cpr_jw, bsd_jw]; done) | (simp only [jw_14408, mw_14408, jwi, wk_jw, cpr_jw, bsd_jw]; rfl) | rfl
theorem beg_jw (W : Int → Int → Int) (B : AMem) (b : Int) : beg (jw W B) b = jw W (beg B b) := by
  unfold beg
  first | (simp only [jw_11, mw_11, jw_32875, mw_32875, jw_33130, mw_33130, jwi, nt_jw]; done) | (simp only [jw_11, mw_11, jw_32875, mw_32875, jw_33130, mw_33130, jwi, nt_jw]; rfl) | rfl
theorem run1_jw (W : Int → Int → Int) (B : AMem)  : run1 (jw W B) = jw W (run1 B) := by
  unfold run1
  first | (simp only [jw_11, mw_11, jw_98642, mw_98642, jw_819297, mw_819297, jw_819299, mw_819299, jwi, rn_jw, cpr_jw, topf_jw, pre_jw, rns_jw]; done) | (simp only [jw_11, mw_11, jw_98642, mw_98642, jw_819297, mw_819297, jw_819299, mw_819299, jwi, rn_jw, cpr_jw, topf_jw, pre_jw, rns_jw]; rfl) | rfl
theorem stl_jw (W : Int → Int → Int) (B : AMem)  : stl (jw W B) = jw W (stl B) := by
  unfold stl
  first | (simp only [jw_11, mw_11, jwi, bst_jw, beg_jw, run1_jw]; done) | (simp only [jw_11, mw_11, jwi, bst_jw, beg_jw, run1_jw]; rfl) | rfl
theorem WT_jw (W : Int → Int → Int) (B : AMem)  : WT (jw W B) = WT B := by
  unfold WT
  first | (simp only [jw_819297, mw_819297, jw_819561, mw_819561, jwi, inn_jw]; done) | (simp only [jw_819297, mw_819297, jw_819561, mw_819561, jwi, inn_jw]; rfl) | rfl
theorem stq_jw (W : Int → Int → Int) (B : AMem) (t : Int) : ∀ n, stq t n (jw W B) = jw W (stq t n B)
  | 0 => rfl
  | n + 1 => by
    have ih := stq_jw W B t n
    unfold stq
    simp only [jw_98406, mw_98406, jw_819297, mw_819297, jw_819298, mw_819298, jw_819301, mw_819301, jwi, clast_jw, ih]
theorem sts_jw (W : Int → Int → Int) (B : AMem) (t : Int) (mask : Int) : sts (jw W B) t mask = jw W (sts B t mask) := by
  unfold sts
  first | (simp only [jw_98388, mw_98388, jw_98406, mw_98406, jwi, stq_jw]; done) | (simp only [jw_98388, mw_98388, jw_98406, mw_98406, jwi, stq_jw]; rfl) | rfl
theorem rmA_jw (W : Int → Int → Int) (B : AMem) (a : Int) : rmA (jw W B) a = jw W (rmA B a) := by
  unfold rmA
  first | (simp only [jw_98387, mw_98387, jw_98394, mw_98394, jw_98395, mw_98395, jw_98396, mw_98396, jwi, cq_jw, nt_jw, rqs_jw, sts_jw]; done) | (simp only [jw_98387, mw_98387, jw_98394, mw_98394, jw_98395, mw_98395, jw_98396, mw_98396, jwi, cq_jw, nt_jw, rqs_jw, sts_jw]; rfl) | rfl
theorem rmE_jw (W : Int → Int → Int) (B : AMem) (a : Int) : rmE (jw W B) a = jw W (rmE B a) := by
  unfold rmE
  first | (simp only [jw_32846, mw_32846, jw_32876, mw_32876, jw_98393, mw_98393, jw_98416, mw_98416, jw_98417, mw_98417, jw_98671, mw_98671, jwi]; done) | (simp only [jw_32846, mw_32846, jw_32876, mw_32876, jw_98393, mw_98393, jw_98416, mw_98416, jw_98417, mw_98417, jw_98671, mw_98671, jwi]; rfl) | rfl
theorem rme_jw (W : Int → Int → Int) (B : AMem) (a : Int) : rme (jw W B) a = jw W (rme B a) := by
  unfold rme
  first | (simp only [jwi, nt_jw, rmA_jw, rmE_jw]; done) | (simp only [jwi, nt_jw, rmA_jw, rmE_jw]; rfl) | rfl
theorem RM_jw (W : Int → Int → Int) (B : AMem) (a : Int) : RM (jw W B) a = RM B a := by
  unfold RM
  first | (simp only [jw_11, mw_11, jw_32846, mw_32846, jw_32876, mw_32876, jw_98393, mw_98393, jw_98394, mw_98394, jw_98395, mw_98395, jw_98417, mw_98417, jwi, fq_jw, SM_jw, WT_jw]; done) | (simp only [jw_11, mw_11, jw_32846, mw_32846, jw_32876, mw_32876, jw_98393, mw_98393, jw_98394, mw_98394, jw_98395, mw_98395, jw_98417, mw_98417, jwi, fq_jw, SM_jw, WT_jw]; rfl) | rfl
theorem rmm_jw (W : Int → Int → Int) (B : AMem) (c : Int) : ∀ n, rmm (jw W B) c n = jw W (rmm B c n)
  | 0 => by first | rfl | (unfold rmm; simp only [jw_32876, mw_32876, jw_98393, mw_98393, jw_98416, mw_98416, jw_98671, mw_98671, jwi, rme_jw]; done) | (unfold rmm; simp only [jw_32876, mw_32876, jw_98393, mw_98393, jw_98416, mw_98416, jw_98671, mw_98671, jwi, rme_jw]; rfl)
  | n + 1 => by
    have ih := rmm_jw W B c n
    unfold rmm
    first | (simp only [jw_32876, mw_32876, jw_98393, mw_98393, jw_98416, mw_98416, jw_98671, mw_98671, jwi, rme_jw, ih]; done) | (simp only [jw_32876, mw_32876, jw_98393, mw_98393, jw_98416, mw_98416, jw_98671, mw_98671, jwi, rme_jw, ih]; rfl)
theorem rt0_jw (W : Int → Int → Int) (B : AMem) (c : Int) : rt0 (jw W B) c = jw W (rt0 B c) := by
  unfold rt0
  first | (simp only [jw_32877, mw_32877, jwi]; done) | (simp only [jw_32877, mw_32877, jwi]; rfl) | rfl
theorem rtv_jw (W : Int → Int → Int) (B : AMem) (c : Int) : rtv (jw W B) c = jw W (rtv B c) := by
  unfold rtv
  first | (simp only [jw_32846, mw_32846, jw_32876, mw_32876, jw_32877, mw_32877, jwi, rt0_jw]; done) | (simp only [jw_32846, mw_32846, jw_32876, mw_32876, jw_32877, mw_32877, jwi, rt0_jw]; rfl) | rfl
theorem rt1_jw (W : Int → Int → Int) (B : AMem) (c : Int) : rt1 (jw W B) c = jw W (rt1 B c) := by
  unfold rt1
  first | (simp only [jw_14408, mw_14408, jw_32847, mw_32847, jw_32877, mw_32877, jwi, rmm_jw, rt0_jw, rtv_jw]; done) | (simp only [jw_14408, mw_14408, jw_32847, mw_32847, jw_32877, mw_32877, jwi, rmm_jw, rt0_jw, rtv_jw]; rfl) | rfl
theorem rtk_jw (W : Int → Int → Int) (B : AMem) (c : Int) : rtk (jw W B) c = jw W (rtk B c) := by
  unfold rtk
  first | (simp only [jwi, stl_jw, rt1_jw]; done) | (simp only [jwi, stl_jw, rt1_jw]; rfl) | rfl
theorem STL_jw (W : Int → Int → Int) (B : AMem)  : STL (jw W B) = STL B := by
  unfold STL
  first | (simp only [jw_11, mw_11, jwi, MB_jw, SM_jw, bst_jw, beg_jw, WT_jw]; done) | (simp only [jw_11, mw_11, jwi, MB_jw, SM_jw, bst_jw, beg_jw, WT_jw]; rfl) | rfl
theorem RT_jw (W : Int → Int → Int) (B : AMem) (c : Int) : RT (jw W B) c = RT B c := by
  unfold RT
  first | (simp only [jw_14408, mw_14408, jw_32846, mw_32846, jw_32876, mw_32876, jw_32877, mw_32877, jwi, RM_jw, rmm_jw, rtv_jw, rt1_jw, STL_jw]; done) | (simp only [jw_14408, mw_14408, jw_32846, mw_32846, jw_32876, mw_32876, jw_32877, mw_32877, jwi, RM_jw, rmm_jw, rtv_jw, rt1_jw, STL_jw]; rfl) | rfl
