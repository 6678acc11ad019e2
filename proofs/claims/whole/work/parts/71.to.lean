/-! the reference's takeOperand, by the word that stands there -/
section TO
variable {l : Launch} {Gr : zG} {n w : Nat} {d : Nat} {b : Nat → Int32} {t q p j dp m N : Nat} {T : zS} {Q : Option Value → zS → Prop}
theorem MC_p (h : MC b t q j dp m N T) (hgq : gp b t q = p) : MC b t p j dp m N (zi T 73 6 (nI p)) := MC_at h (by rw [← hgq]; exact gp_le h.1.2.2.2.1)
theorem to_57 (hg : ip_gk (lg_tbl, vwCl, Gr)) (htx : ∀ k, k < t → tx (b k)) (h : MC b t q j dp m N T) (hgq : gp b t q = p) (k24 : tk b t p = 40 → zW l Gr (zc n w) 168 M_Mo_takeOperand (d + 7) 24 [some (.ref 105), some (.int (nI p)), none, none, none, none] [] (zi T 73 6 (nI p)) Q) (k57 : ¬ tk b t p = 40 → zW l Gr (zc n w) 168 M_Mo_takeOperand (d + 7) 57 [some (.ref 105), some (.int (nI p)), some (.int (lk b t p)), none, none, none] [] (zi T 73 6 (nI p)) Q) : zW l Gr (zc n w) 168 M_Mo_takeOperand (d + 7) 0 [some (.ref 105), none, none, none, none, none] [] T Q := by
  have h1 := MC_p h hgq
  have hp : p ≤ t := h1.1.2.2.2.1
  refine b_Mo_takeOperand_0 hg (wm_gap hg h.1) (fun T1 e1 => ?_)
  rw [e1, hgq]
  refine b_Mo_takeOperand_4 hg (wm_k0 h1.1) (fun v T1 hv => ?_)
  rw [hv.1, hv.2, h1.1.2.2.1]
  refine b_Mo_takeOperand_14 hg (wm_isSign hg h1.1) (fun v T1 hv => ?_)
  rw [hv.1, hv.2]
  by_cases z : sg b t p 40
  · rw [if_pos z]
    exact b_Mo_takeOperand_21 (fun y => absurd y (by decide)) (fun _ => k24 ((tk_sg htx hp (by decide) (by decide) (by decide)).mp z))
  · rw [if_neg z]
    exact b_Mo_takeOperand_21 (fun _ => k57 (fun y => z ((tk_sg htx hp (by decide) (by decide) (by decide)).mpr y))) (fun y => absurd rfl y)
theorem to_108 (hg : ip_gk (lg_tbl, vwCl, Gr)) (htx : ∀ k, k < t → tx (b k)) (h1 : MC b t p j dp m N T) (k84 : (tk b t p = 45 ∨ tk b t p = 126 ∨ tk b t p = 33) → zW l Gr (zc n w) 168 M_Mo_takeOperand (d + 7) 84 [some (.ref 105), some (.int (nI p)), some (.int (lk b t p)), none, none, none] [] T Q) (k108 : ¬ (tk b t p = 45 ∨ tk b t p = 126 ∨ tk b t p = 33) → zW l Gr (zc n w) 168 M_Mo_takeOperand (d + 7) 108 [some (.ref 105), some (.int (nI p)), some (.int (lk b t p)), none, none, none] [] T Q) : zW l Gr (zc n w) 168 M_Mo_takeOperand (d + 7) 57 [some (.ref 105), some (.int (nI p)), some (.int (lk b t p)), none, none, none] [] T Q := by
  have hp : p ≤ t := h1.1.2.2.2.1
  refine b_Mo_takeOperand_57 hg (wm_isSign hg h1.1) (fun v T1 hv => ?_)
  rw [hv.1, hv.2]
  by_cases z : sg b t p 45
  · rw [if_pos z]
    exact b_Mo_takeOperand_63 (fun _ => k84 (Or.inl ((tk_sg htx hp (by decide) (by decide) (by decide)).mp z))) (fun y => absurd y (by decide))
  rw [if_neg z]
  refine b_Mo_takeOperand_63 (fun y => absurd rfl y) (fun _ => b_Mo_takeOperand_66 hg (wm_isSign hg h1.1) (fun v T1 hv => ?_))
  rw [hv.1, hv.2]
  by_cases z2 : sg b t p 126
  · rw [if_pos z2]
    exact b_Mo_takeOperand_72 (fun _ => k84 (Or.inr (Or.inl ((tk_sg htx hp (by decide) (by decide) (by decide)).mp z2)))) (fun y => absurd y (by decide))
  rw [if_neg z2]
  refine b_Mo_takeOperand_72 (fun y => absurd rfl y) (fun _ => b_Mo_takeOperand_75 hg (wm_isSign hg h1.1) (fun v T1 hv => ?_))
  rw [hv.1, hv.2]
  by_cases z3 : sg b t p 33
  · rw [if_pos z3]
    exact b_Mo_takeOperand_81 (fun y => absurd y (by decide)) (fun _ => k84 (Or.inr (Or.inr ((tk_sg htx hp (by decide) (by decide) (by decide)).mp z3))))
  rw [if_neg z3]
  refine b_Mo_takeOperand_81 (fun _ => k108 (fun y => ?_)) (fun y => absurd rfl y)
  rcases y with y | y | y
  · exact z ((tk_sg htx hp (by decide) (by decide) (by decide)).mpr y)
  · exact z2 ((tk_sg htx hp (by decide) (by decide) (by decide)).mpr y)
  · exact z3 ((tk_sg htx hp (by decide) (by decide) (by decide)).mpr y)
theorem to_158 (hg : ip_gk (lg_tbl, vwCl, Gr)) (htx : ∀ k, k < t → tx (b k)) (hp : p ≤ t) (k115 : tk b t p = 2 → zW l Gr (zc n w) 168 M_Mo_takeOperand (d + 7) 115 [some (.ref 105), some (.int (nI p)), none, none, none, none] [] T Q) (k158 : ¬ tk b t p = 2 → zW l Gr (zc n w) 168 M_Mo_takeOperand (d + 7) 158 [some (.ref 105), some (.int (nI p)), none, none, none, none] [] T Q) : zW l Gr (zc n w) 168 M_Mo_takeOperand (d + 7) 108 [some (.ref 105), some (.int (nI p)), some (.int (lk b t p)), none, none, none] [] T Q := by
  refine b_Mo_takeOperand_108 hg wm_isDigit (fun v T1 hv => ?_)
  rw [hv.1, hv.2]
  by_cases z : isd (lk b t p)
  · rw [if_pos z]
    exact b_Mo_takeOperand_112 (fun y => absurd y (by decide)) (fun _ => k115 ((tk_d htx hp).mp z))
  · rw [if_neg z]
    exact b_Mo_takeOperand_112 (fun _ => k158 (fun y => z ((tk_d htx hp).mpr y))) (fun y => absurd rfl y)
theorem to_220 (hg : ip_gk (lg_tbl, vwCl, Gr)) (ho : ip_old (lg_tbl, vwCl, Gr)) (htx : ∀ k, k < t → tx (b k)) (h1 : MC b t p j dp m N T) (k178 : (tk b t p = 211 ∨ tk b t p = 212) → zW l Gr (zc n w) 168 M_Mo_takeOperand (d + 7) 178 [some (.ref 105), some (.int (nI p)), none, none, none, none] [] T Q) (k220 : ¬ (tk b t p = 211 ∨ tk b t p = 212) → zW l Gr (zc n w) 168 M_Mo_takeOperand (d + 7) 220 [some (.ref 105), some (.int (nI p)), none, none, none, none] [] T Q) : zW l Gr (zc n w) 168 M_Mo_takeOperand (d + 7) 158 [some (.ref 105), some (.int (nI p)), none, none, none, none] [] T Q := by
  have hp : p ≤ t := h1.1.2.2.2.1
  refine b_Mo_takeOperand_158 hg ho (wm_isW11 hg ho h1.1) (fun v T1 hv => ?_)
  rw [hv.1, hv.2]
  by_cases z : wd b p (we b t p) = kw11
  · rw [if_pos z]
    exact b_Mo_takeOperand_165 (fun _ => k178 (Or.inl ((tk_w htx hp (fun _ => wk_11) (by decide) (by decide)).mp z))) (fun y => absurd y (by decide))
  rw [if_neg z]
  refine b_Mo_takeOperand_165 (fun y => absurd rfl y) (fun _ => b_Mo_takeOperand_168 hg ho (wm_isW12 hg ho h1.1) (fun v T1 hv => ?_))
  rw [hv.1, hv.2]
  by_cases z2 : wd b p (we b t p) = kw12
  · rw [if_pos z2]
    exact b_Mo_takeOperand_175 (fun y => absurd y (by decide)) (fun _ => k178 (Or.inr ((tk_w htx hp (fun _ => wk_12) (by decide) (by decide)).mp z2)))
  rw [if_neg z2]
  refine b_Mo_takeOperand_175 (fun _ => k220 (fun y => ?_)) (fun y => absurd rfl y)
  rcases y with y | y
  · exact z ((tk_w htx hp (fun _ => wk_11) (by decide) (by decide)).mpr y)
  · exact z2 ((tk_w htx hp (fun _ => wk_12) (by decide) (by decide)).mpr y)
theorem to_316 (hg : ip_gk (lg_tbl, vwCl, Gr)) (ho : ip_old (lg_tbl, vwCl, Gr)) (htx : ∀ k, k < t → tx (b k)) (h1 : MC b t p j dp m N T) (k240 : (tk b t p = 209 ∨ tk b t p = 210) → zW l Gr (zc n w) 168 M_Mo_takeOperand (d + 7) 240 [some (.ref 105), some (.int (nI p)), none, none, none, none] [] T Q) (k316 : ¬ (tk b t p = 209 ∨ tk b t p = 210) → zW l Gr (zc n w) 168 M_Mo_takeOperand (d + 7) 316 [some (.ref 105), some (.int (nI p)), none, none, none, none] [] T Q) : zW l Gr (zc n w) 168 M_Mo_takeOperand (d + 7) 220 [some (.ref 105), some (.int (nI p)), none, none, none, none] [] T Q := by
  have hp : p ≤ t := h1.1.2.2.2.1
  refine b_Mo_takeOperand_220 hg ho (wm_isW9 hg ho h1.1) (fun v T1 hv => ?_)
  rw [hv.1, hv.2]
  by_cases z : wd b p (we b t p) = kw9
  · rw [if_pos z]
    exact b_Mo_takeOperand_227 (fun _ => k240 (Or.inl ((tk_w htx hp (fun _ => wk_9) (by decide) (by decide)).mp z))) (fun y => absurd y (by decide))
  rw [if_neg z]
  refine b_Mo_takeOperand_227 (fun y => absurd rfl y) (fun _ => b_Mo_takeOperand_230 hg ho (wm_isW10 hg ho h1.1) (fun v T1 hv => ?_))
  rw [hv.1, hv.2]
  by_cases z2 : wd b p (we b t p) = kw10
  · rw [if_pos z2]
    exact b_Mo_takeOperand_237 (fun y => absurd y (by decide)) (fun _ => k240 (Or.inr ((tk_w htx hp (fun _ => wk_10) (by decide) (by decide)).mp z2)))
  rw [if_neg z2]
  refine b_Mo_takeOperand_237 (fun _ => k316 (fun y => ?_)) (fun y => absurd rfl y)
  rcases y with y | y
  · exact z ((tk_w htx hp (fun _ => wk_9) (by decide) (by decide)).mpr y)
  · exact z2 ((tk_w htx hp (fun _ => wk_10) (by decide) (by decide)).mpr y)
/-- ( -/
def tBra (T : zS) (p j dp m : Nat) : zS := zi (mU (zi (mP (zi T 73 6 (nI p)) j 1 0 0 (nI p)) 73 19 (nI (dp + 1))) m 5 0 (nI p)) 73 6 (nI (p + 1))
def tBraF (T : zS) (p j m : Nat) : zS := zi (mU (zi (mF (mP (zi T 73 6 (nI p)) j 1 0 0 (nI p)) 3 (nI p)) 73 19 (nI 31)) m 5 0 (nI p)) 73 6 (nI (p + 1))
theorem to_bra (hg : ip_gk (lg_tbl, vwCl, Gr)) (htx : ∀ k, k < t → tx (b k)) (h : MC b t q j dp m N T) (hgq : gp b t q = p) (hk : tk b t p = 40) (hj : j < 12000) (hm : m < 4100) (hd : dp ≤ 30) : zMi l Gr (zc n w) 168 M_Mo_takeOperand (d + 7) [.ref 105] T (fun v T' => v = 0 ∧ T' = if dp < 30 then tBra T p j dp m else tBraF T p j m) := by
  have h1 := MC_p h hgq
  have hp : p ≤ t := h1.1.2.2.2.1
  refine e_Mo_takeOperand (to_57 hg htx h hgq (fun _ => ?_) (fun y => absurd hk y))
  refine b_Mo_takeOperand_24 hg (wm_put h1.2.2.1 hj) (fun v T1 hv => ?_)
  rw [hv.2]
  have h2 := MC_mP (x1 := 1) (x2 := 0) (x3 := 0) (x4 := nI p) h1
  by_cases z : dp < 30
  · rw [if_pos z]
    refine b_Mo_takeOperand_32 hg (wm_deeper hg h2.2.2.2.1 z) (fun T1 e => ?_)
    rw [e]
    have h3 := MC_dp (d' := dp + 1) h2
    refine b_Mo_takeOperand_38 hg (wm_push h3.2.2.2.2.1 hm) (fun T1 e => ?_)
    rw [e]
    have h4 := MC_mU (x1 := 5) (x2 := 0) (x3 := nI p) h3
    refine b_Mo_takeOperand_45 ⟨_, rfl, Or.inl rfl, rfl, ?_⟩
    rw [h4.1.2.2.1, nI_1]
    rfl
  · rw [if_neg z]
    have e30 : dp = 30 := by omega
    subst e30
    refine b_Mo_takeOperand_32 hg (wm_deeperF hg h2.2.2.2.1 h2.2.1) (fun T1 e => ?_)
    rw [e]
    refine b_Mo_takeOperand_38 hg (wm_push (m := m) ?_ hm) (fun T1 e => ?_)
    · unfold mF
      rw [zi_k (by decide), zi_k (by decide), zi_k (by decide)]
      exact h2.2.2.2.2.1
    rw [e]
    refine b_Mo_takeOperand_45 ⟨_, rfl, Or.inl rfl, rfl, ?_⟩
    have : (mU (zi (mF (mP (zi T 73 6 (nI p)) j 1 0 0 (nI p)) 3 (nI p)) 73 19 (nI 31)) m 5 0 (nI p)).1 73 6 = nI p := by
      unfold mU mF
      rw [zi_k (by decide), zi_c (by decide), zi_c (by decide), zi_c (by decide), zi_c (by decide), zi_k (by decide), zi_k (by decide), zi_k (by decide)]
      exact h2.1.2.2.1
    rw [this, nI_1]
    rfl
/-- - ~ ! -/
def tUna (T : zS) (p dp m : Nat) (c : Int32) : zS := zi (mU (zi (zi T 73 6 (nI p)) 73 19 (nI (dp + 1))) m 2 c (nI p)) 73 6 (nI (p + 1))
def tUnaF (T : zS) (p m : Nat) (c : Int32) : zS := zi (mU (zi (mF (zi T 73 6 (nI p)) 3 (nI p)) 73 19 (nI 31)) m 2 c (nI p)) 73 6 (nI (p + 1))
theorem to_una (hg : ip_gk (lg_tbl, vwCl, Gr)) (htx : ∀ k, k < t → tx (b k)) (h : MC b t q j dp m N T) (hgq : gp b t q = p) (hk : tk b t p = 45 ∨ tk b t p = 126 ∨ tk b t p = 33) (hm : m < 4100) (hd : dp ≤ 30) : zMi l Gr (zc n w) 168 M_Mo_takeOperand (d + 7) [.ref 105] T (fun v T' => v = 0 ∧ T' = if dp < 30 then tUna T p dp m (lk b t p) else tUnaF T p m (lk b t p)) := by
  have h1 := MC_p h hgq
  have hp : p ≤ t := h1.1.2.2.2.1
  refine e_Mo_takeOperand (to_57 hg htx h hgq (fun y => ?_) (fun _ => to_108 hg htx h1 (fun _ => ?_) (fun y => absurd hk y)))
  · rw [y] at hk; exact absurd hk (by decide)
  by_cases z : dp < 30
  · rw [if_pos z]
    refine b_Mo_takeOperand_84 hg (wm_deeper hg h1.2.2.2.1 z) (fun T1 e => ?_)
    rw [e]
    have h3 := MC_dp (d' := dp + 1) h1
    refine b_Mo_takeOperand_89 hg (wm_push h3.2.2.2.2.1 hm) (fun T1 e => ?_)
    rw [e]
    have h4 := MC_mU (x1 := 2) (x2 := lk b t p) (x3 := nI p) h3
    refine b_Mo_takeOperand_96 ⟨_, rfl, Or.inl rfl, rfl, ?_⟩
    rw [h4.1.2.2.1, nI_1]
    rfl
  · rw [if_neg z]
    have e30 : dp = 30 := by omega
    subst e30
    refine b_Mo_takeOperand_84 hg (wm_deeperF hg h1.2.2.2.1 h1.2.1) (fun T1 e => ?_)
    rw [e]
    refine b_Mo_takeOperand_89 hg (wm_push (m := m) ?_ hm) (fun T1 e => ?_)
    · unfold mF
      rw [zi_k (by decide), zi_k (by decide), zi_k (by decide)]
      exact h1.2.2.2.2.1
    rw [e]
    refine b_Mo_takeOperand_96 ⟨_, rfl, Or.inl rfl, rfl, ?_⟩
    have : (mU (zi (mF (zi T 73 6 (nI p)) 3 (nI p)) 73 19 (nI 31)) m 2 (lk b t p) (nI p)).1 73 6 = nI p := by
      unfold mU mF
      rw [zi_k (by decide), zi_c (by decide), zi_c (by decide), zi_c (by decide), zi_c (by decide), zi_k (by decide), zi_k (by decide), zi_k (by decide)]
      exact h1.1.2.2.1
    rw [this, nI_1]
    rfl
end TO
