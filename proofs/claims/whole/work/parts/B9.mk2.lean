/-! the reference's SORTS: EXPRs (gm.py) -/
section MK9
variable {l : Launch} {Gr : zG} {n w : Nat} {d : Nat} {m m0 M s j mz c q : Nat} {T T' X : zS} {v r p pb : Int32}
theorem mMu_c {c k : Nat} (h : ¬ (c = 73 ∧ (k = 7 ∨ k = 8))) : (mMu T m r).1 c k = T.1 c k := by
  unfold mMu
  split
  · show (zi (zi T 73 7 _) 73 8 _).1 c k = _
    rw [zi_get, if_neg (by omega), zi_get, if_neg (by omega)]
  · rfl
theorem mF_c' {f pl : Int32} {c k : Nat} (h : ¬ (c = 73 ∧ (k = 7 ∨ k = 8))) : (mF T f pl).1 c k = T.1 c k := by
  show (zi (zi T 73 7 _) 73 8 _).1 c k = _
  rw [zi_get, if_neg (by omega), zi_get, if_neg (by omega)]
theorem mRf_c {c k : Nat} (h : ¬ (102 ≤ c ∧ c ≤ 105)) : (mRf T j s).1 c k = T.1 c k := by
  unfold mRf
  rw [zi_c (by omega), zi_c (by omega), zi_c (by omega), zi_c (by omega)]
theorem r_1 (hg : ip_gk (lg_tbl, vwCl, Gr)) (h : RIx T j mz) (ho : T.1 78 j = 1)  : RG l Gr n w d T j (T) (j + 1) := by
  have hmz := h.2.1
  have h7 := h.2.2.1
  have hlt := h.2.2.2
  have hj : j < 12000 := by omega
  have hin : vp_in (nI j) 12000 := vp_in_nI hj (by omega)
  have ec : (nI j).toNatClampNeg = j := nI_clamp (by omega)
  have e78 : T.1 78 (nI j).toNatClampNeg = 1 := by rw [ec]; exact ho
  refine rg_O (by (try simp only [mPl, mRf, mF, mMu, mPb, mSy, mT]); repeat first | exact KMf_rfl | refine KMf_ite ?_ ?_ | refine KMf_zi (by omega) ?_) hg h (by rw [ho]; decide) (e_Mo_operandSort (b_Mo_operandSort_0 hin (fun z => absurd (e78.symm.trans z) (by decide)) (fun z => absurd (e78.symm.trans z) (by decide)) (fun z => absurd (e78.symm.trans z) (by decide)) (fun z => absurd (e78.symm.trans z) (by decide)) (fun z => absurd (e78.symm.trans z) (by decide)) (fun z => absurd (e78.symm.trans z) (by decide)) (fun z => absurd (e78.symm.trans z) (by decide)) (fun z => absurd (e78.symm.trans z) (by decide)) (fun z => absurd (e78.symm.trans z) (by decide)) (fun z => absurd (e78.symm.trans z) (by decide)) (fun z => absurd (e78.symm.trans z) (by decide)) (fun z => absurd (e78.symm.trans z) (by decide)) (fun z => absurd (e78.symm.trans z) (by decide)) (fun z => absurd (e78.symm.trans z) (by decide)) (fun z => absurd (e78.symm.trans z) (by decide)) (fun _ _ _ _ _ _ _ _ _ _ _ _ _ _ _ => ?_)))
  exact b_Mo_operandSort_600 ⟨rfl, rfl⟩
theorem r_2 (hg : ip_gk (lg_tbl, vwCl, Gr)) (h : RIx T j mz) (ho : T.1 78 j = 2) (h43 : T.1 73 43 = nI m) (hm : m < 4200) : RG l Gr n w d T j (mPl T m 0 (T.1 81 j) 1) (j + 1) := by
  have hmz := h.2.1
  have h7 := h.2.2.1
  have hlt := h.2.2.2
  have hj : j < 12000 := by omega
  have hin : vp_in (nI j) 12000 := vp_in_nI hj (by omega)
  have ec : (nI j).toNatClampNeg = j := nI_clamp (by omega)
  have e78 : T.1 78 (nI j).toNatClampNeg = 2 := by rw [ec]; exact ho
  refine rg_O (by (try simp only [mPl, mRf, mF, mMu, mPb, mSy, mT]); repeat first | exact KMf_rfl | refine KMf_ite ?_ ?_ | refine KMf_zi (by omega) ?_) hg h (by rw [ho]; decide) (e_Mo_operandSort (b_Mo_operandSort_0 hin (fun _ => ?_) (fun z => absurd (e78.symm.trans z) (by decide)) (fun z => absurd (e78.symm.trans z) (by decide)) (fun z => absurd (e78.symm.trans z) (by decide)) (fun z => absurd (e78.symm.trans z) (by decide)) (fun z => absurd (e78.symm.trans z) (by decide)) (fun z => absurd (e78.symm.trans z) (by decide)) (fun z => absurd (e78.symm.trans z) (by decide)) (fun z => absurd (e78.symm.trans z) (by decide)) (fun z => absurd (e78.symm.trans z) (by decide)) (fun z => absurd (e78.symm.trans z) (by decide)) (fun z => absurd (e78.symm.trans z) (by decide)) (fun z => absurd (e78.symm.trans z) (by decide)) (fun z => absurd (e78.symm.trans z) (by decide)) (fun z => absurd (e78.symm.trans z) (by decide)) (fun q _ _ _ _ _ _ _ _ _ _ _ _ _ _ => absurd e78 q)))
  rw [ec]
  exact b_Mo_operandSort_88 hg (wm_pile h43 hm) (fun A eA => b_Mo_operandSort_95 (b_Mo_operandSort_600 ⟨rfl, eA⟩))
theorem r_3 (hg : ip_gk (lg_tbl, vwCl, Gr)) (h : RIx T j mz) (ho : T.1 78 j = 3) (h43 : T.1 73 43 = nI m) (hm : m < 4200) : RG l Gr n w d T j (mPl T m 1 (T.1 81 j) 1) (j + 1) := by
  have hmz := h.2.1
  have h7 := h.2.2.1
  have hlt := h.2.2.2
  have hj : j < 12000 := by omega
  have hin : vp_in (nI j) 12000 := vp_in_nI hj (by omega)
  have ec : (nI j).toNatClampNeg = j := nI_clamp (by omega)
  have e78 : T.1 78 (nI j).toNatClampNeg = 3 := by rw [ec]; exact ho
  refine rg_O (by (try simp only [mPl, mRf, mF, mMu, mPb, mSy, mT]); repeat first | exact KMf_rfl | refine KMf_ite ?_ ?_ | refine KMf_zi (by omega) ?_) hg h (by rw [ho]; decide) (e_Mo_operandSort (b_Mo_operandSort_0 hin (fun z => absurd (e78.symm.trans z) (by decide)) (fun _ => ?_) (fun z => absurd (e78.symm.trans z) (by decide)) (fun z => absurd (e78.symm.trans z) (by decide)) (fun z => absurd (e78.symm.trans z) (by decide)) (fun z => absurd (e78.symm.trans z) (by decide)) (fun z => absurd (e78.symm.trans z) (by decide)) (fun z => absurd (e78.symm.trans z) (by decide)) (fun z => absurd (e78.symm.trans z) (by decide)) (fun z => absurd (e78.symm.trans z) (by decide)) (fun z => absurd (e78.symm.trans z) (by decide)) (fun z => absurd (e78.symm.trans z) (by decide)) (fun z => absurd (e78.symm.trans z) (by decide)) (fun z => absurd (e78.symm.trans z) (by decide)) (fun z => absurd (e78.symm.trans z) (by decide)) (fun _ q _ _ _ _ _ _ _ _ _ _ _ _ _ => absurd e78 q)))
  rw [ec]
  exact b_Mo_operandSort_98 hg (wm_pile h43 hm) (fun A eA => b_Mo_operandSort_105 (b_Mo_operandSort_600 ⟨rfl, eA⟩))
theorem r_4 (hg : ip_gk (lg_tbl, vwCl, Gr)) (h : RIx T j mz) (ho : T.1 78 j = 4) (h43 : T.1 73 43 = nI m) (hm : m < 4200) : RG l Gr n w d T j (mPl T m 1 (T.1 81 j) 1) (j + 1) := by
  have hmz := h.2.1
  have h7 := h.2.2.1
  have hlt := h.2.2.2
  have hj : j < 12000 := by omega
  have hin : vp_in (nI j) 12000 := vp_in_nI hj (by omega)
  have ec : (nI j).toNatClampNeg = j := nI_clamp (by omega)
  have e78 : T.1 78 (nI j).toNatClampNeg = 4 := by rw [ec]; exact ho
  refine rg_O (by (try simp only [mPl, mRf, mF, mMu, mPb, mSy, mT]); repeat first | exact KMf_rfl | refine KMf_ite ?_ ?_ | refine KMf_zi (by omega) ?_) hg h (by rw [ho]; decide) (e_Mo_operandSort (b_Mo_operandSort_0 hin (fun z => absurd (e78.symm.trans z) (by decide)) (fun z => absurd (e78.symm.trans z) (by decide)) (fun _ => ?_) (fun z => absurd (e78.symm.trans z) (by decide)) (fun z => absurd (e78.symm.trans z) (by decide)) (fun z => absurd (e78.symm.trans z) (by decide)) (fun z => absurd (e78.symm.trans z) (by decide)) (fun z => absurd (e78.symm.trans z) (by decide)) (fun z => absurd (e78.symm.trans z) (by decide)) (fun z => absurd (e78.symm.trans z) (by decide)) (fun z => absurd (e78.symm.trans z) (by decide)) (fun z => absurd (e78.symm.trans z) (by decide)) (fun z => absurd (e78.symm.trans z) (by decide)) (fun z => absurd (e78.symm.trans z) (by decide)) (fun z => absurd (e78.symm.trans z) (by decide)) (fun _ _ q _ _ _ _ _ _ _ _ _ _ _ _ => absurd e78 q)))
  rw [ec]
  exact b_Mo_operandSort_98 hg (wm_pile h43 hm) (fun A eA => b_Mo_operandSort_105 (b_Mo_operandSort_600 ⟨rfl, eA⟩))
theorem r_15 (hg : ip_gk (lg_tbl, vwCl, Gr)) (h : RIx T j mz) (ho : T.1 78 j = 15) (h43 : T.1 73 43 = nI (m + 1)) (hm : m < 4200) : RG l Gr n w d T j (zi T 99 m (T.1 81 j)) (j + 1) := by
  have hmz := h.2.1
  have h7 := h.2.2.1
  have hlt := h.2.2.2
  have hj : j < 12000 := by omega
  have hin : vp_in (nI j) 12000 := vp_in_nI hj (by omega)
  have ec : (nI j).toNatClampNeg = j := nI_clamp (by omega)
  have e78 : T.1 78 (nI j).toNatClampNeg = 15 := by rw [ec]; exact ho
  refine rg_O (by (try simp only [mPl, mRf, mF, mMu, mPb, mSy, mT]); repeat first | exact KMf_rfl | refine KMf_ite ?_ ?_ | refine KMf_zi (by omega) ?_) hg h (by rw [ho]; decide) (e_Mo_operandSort (b_Mo_operandSort_0 hin (fun z => absurd (e78.symm.trans z) (by decide)) (fun z => absurd (e78.symm.trans z) (by decide)) (fun z => absurd (e78.symm.trans z) (by decide)) (fun z => absurd (e78.symm.trans z) (by decide)) (fun z => absurd (e78.symm.trans z) (by decide)) (fun z => absurd (e78.symm.trans z) (by decide)) (fun z => absurd (e78.symm.trans z) (by decide)) (fun z => absurd (e78.symm.trans z) (by decide)) (fun z => absurd (e78.symm.trans z) (by decide)) (fun z => absurd (e78.symm.trans z) (by decide)) (fun z => absurd (e78.symm.trans z) (by decide)) (fun z => absurd (e78.symm.trans z) (by decide)) (fun z => absurd (e78.symm.trans z) (by decide)) (fun _ => ?_) (fun z => absurd (e78.symm.trans z) (by decide)) (fun _ _ _ _ _ _ _ _ _ _ _ _ _ q _ => absurd e78 q)))
  rw [ec]
  have e1 : T.1 73 43 - 1 = nI m := by rw [h43]; exact nI_pred m
  exact b_Mo_operandSort_585 (by rw [e1]; exact vp_in_nI hm (by omega)) (b_Mo_operandSort_600 ⟨rfl, by rw [e1, nI_clamp (by omega)]⟩)
theorem r_10 (hg : ip_gk (lg_tbl, vwCl, Gr)) (h : RIx T j mz) (ho : T.1 78 j = 10) (h43 : T.1 73 43 = nI (m + 1)) (hm : m < 4200) : RG l Gr n w d T j (zi (zi (mMu T m 1) 99 m (T.1 81 j)) 98 m 0) (j + 1) := by
  have hmz := h.2.1
  have h7 := h.2.2.1
  have hlt := h.2.2.2
  have hj : j < 12000 := by omega
  have hin : vp_in (nI j) 12000 := vp_in_nI hj (by omega)
  have ec : (nI j).toNatClampNeg = j := nI_clamp (by omega)
  have e78 : T.1 78 (nI j).toNatClampNeg = 10 := by rw [ec]; exact ho
  refine rg_O (by (try simp only [mPl, mRf, mF, mMu, mPb, mSy, mT]); repeat first | exact KMf_rfl | refine KMf_ite ?_ ?_ | refine KMf_zi (by omega) ?_) hg h (by rw [ho]; decide) (e_Mo_operandSort (b_Mo_operandSort_0 hin (fun z => absurd (e78.symm.trans z) (by decide)) (fun z => absurd (e78.symm.trans z) (by decide)) (fun z => absurd (e78.symm.trans z) (by decide)) (fun z => absurd (e78.symm.trans z) (by decide)) (fun z => absurd (e78.symm.trans z) (by decide)) (fun z => absurd (e78.symm.trans z) (by decide)) (fun z => absurd (e78.symm.trans z) (by decide)) (fun z => absurd (e78.symm.trans z) (by decide)) (fun _ => ?_) (fun z => absurd (e78.symm.trans z) (by decide)) (fun z => absurd (e78.symm.trans z) (by decide)) (fun z => absurd (e78.symm.trans z) (by decide)) (fun z => absurd (e78.symm.trans z) (by decide)) (fun z => absurd (e78.symm.trans z) (by decide)) (fun z => absurd (e78.symm.trans z) (by decide)) (fun _ _ _ _ _ _ _ _ q _ _ _ _ _ _ => absurd e78 q)))
  rw [ec]
  refine b_Mo_operandSort_521 hg (wm_must hg h43 hm) (fun A eA => ?_)
  rw [eA]
  have e1 : (mMu T m 1).1 73 43 - 1 = nI m := by rw [mMu_c (by omega), h43]; exact nI_pred m
  exact b_Mo_operandSort_526 (by rw [e1]; exact vp_in_nI hm (by omega)) (b_Mo_operandSort_600 ⟨rfl, by rw [e1, nI_clamp (by omega)]⟩)
theorem r_12 (hg : ip_gk (lg_tbl, vwCl, Gr)) (h : RIx T j mz) (ho : T.1 78 j = 12) (h43 : T.1 73 43 = nI (m + 1)) (hm : m < 4200) : RG l Gr n w d T j (zi (if T.1 98 m = (if T.1 79 j = 33 then 1 else 0) then T else mF T 5 (T.1 81 j)) 99 m (T.1 81 j)) (j + 1) := by
  have hmz := h.2.1
  have h7 := h.2.2.1
  have hlt := h.2.2.2
  have hj : j < 12000 := by omega
  have hin : vp_in (nI j) 12000 := vp_in_nI hj (by omega)
  have ec : (nI j).toNatClampNeg = j := nI_clamp (by omega)
  have e78 : T.1 78 (nI j).toNatClampNeg = 12 := by rw [ec]; exact ho
  refine rg_O (by (try simp only [mPl, mRf, mF, mMu, mPb, mSy, mT]); repeat first | exact KMf_rfl | refine KMf_ite ?_ ?_ | refine KMf_zi (by omega) ?_) hg h (by rw [ho]; decide) (e_Mo_operandSort (b_Mo_operandSort_0 hin (fun z => absurd (e78.symm.trans z) (by decide)) (fun z => absurd (e78.symm.trans z) (by decide)) (fun z => absurd (e78.symm.trans z) (by decide)) (fun z => absurd (e78.symm.trans z) (by decide)) (fun z => absurd (e78.symm.trans z) (by decide)) (fun z => absurd (e78.symm.trans z) (by decide)) (fun z => absurd (e78.symm.trans z) (by decide)) (fun z => absurd (e78.symm.trans z) (by decide)) (fun z => absurd (e78.symm.trans z) (by decide)) (fun z => absurd (e78.symm.trans z) (by decide)) (fun _ => ?_) (fun z => absurd (e78.symm.trans z) (by decide)) (fun z => absurd (e78.symm.trans z) (by decide)) (fun z => absurd (e78.symm.trans z) (by decide)) (fun z => absurd (e78.symm.trans z) (by decide)) (fun _ _ _ _ _ _ _ _ _ _ q _ _ _ _ => absurd e78 q)))
  have e1 : ∀ Y : zS, Y.1 73 43 = nI (m + 1) → Y.1 73 43 - 1 = nI m := fun Y y => by rw [y]; exact nI_pred m
  refine b_Mo_operandSort_561 (R := fun T' => T' = zi (if T.1 98 m = (if T.1 79 j = 33 then 1 else 0) then T else mF T 5 (T.1 81 j)) 99 m (T.1 81 j)) hg (e_Mo_unarySort ?_) (fun A eA => b_Mo_operandSort_566 (b_Mo_operandSort_600 ⟨rfl, eA⟩))
  have k16 : ∀ c : Int32, c = (if T.1 79 j = 33 then 1 else 0) → zW l Gr (zc n w) 168 M_Mo_unarySort (d + 2) 16 [some (.ref 105), some (.int (nI j)), none] [.int c] T (fun v T' => v = none ∧ T' = zi (if T.1 98 m = (if T.1 79 j = 33 then 1 else 0) then T else mF T 5 (T.1 81 j)) 99 m (T.1 81 j)) := fun c hc => by
    refine b_Mo_unarySort_16 (by rw [e1 T h43]; exact vp_in_nI hm (by omega)) (fun z => ?_) (fun z => b_Mo_unarySort_32 hg hin (wm_fail h7) (fun A eA => ?_))
    · rw [e1 T h43, nI_clamp (by omega)] at z
      rw [← hc, if_pos z]
      exact b_Mo_unarySort_43 hin (by rw [e1 T h43]; exact vp_in_nI hm (by omega)) ⟨rfl, by rw [e1 T h43, nI_clamp (by omega), ec]⟩
    · rw [e1 T h43, nI_clamp (by omega)] at z
      rw [eA, ec, ← hc, if_neg z]
      have y43 : (mF T 5 (T.1 81 j)).1 73 43 = nI (m + 1) := (mF_c' (by omega)).trans h43
      exact b_Mo_unarySort_43 hin (by rw [e1 _ y43]; exact vp_in_nI hm (by omega)) ⟨rfl, by rw [e1 _ y43, nI_clamp (by omega), ec, mF_c' (by omega)]⟩
  refine b_Mo_unarySort_0 hin (fun z => b_Mo_unarySort_15 (k16 0 ?_)) (fun z => b_Mo_unarySort_11 (k16 1 ?_))
  · rw [ec] at z; rw [if_neg z]
  · rw [ec] at z; rw [if_pos z]
theorem r_11 (hg : ip_gk (lg_tbl, vwCl, Gr)) (h : RIx T j mz) (ho : T.1 78 j = 11) (h43 : T.1 73 43 = nI (m + 2)) (hm : m + 1 < 4200) (hA : T.1 98 (m + 1) = 0) (hB : ¬ T.1 100 (m + 1) = 0) : RG l Gr n w d T j (zi (zi (zi (zi T 106 j (T.1 99 (m + 1))) 73 43 (nI (m + 1))) 98 m 1) 99 m (T.1 81 j)) (j + 1) := by
  have hmz := h.2.1
  have h7 := h.2.2.1
  have hlt := h.2.2.2
  have hj : j < 12000 := by omega
  have hin : vp_in (nI j) 12000 := vp_in_nI hj (by omega)
  have ec : (nI j).toNatClampNeg = j := nI_clamp (by omega)
  have e78 : T.1 78 (nI j).toNatClampNeg = 11 := by rw [ec]; exact ho
  refine rg_O (by (try simp only [mPl, mRf, mF, mMu, mPb, mSy, mT]); repeat first | exact KMf_rfl | refine KMf_ite ?_ ?_ | refine KMf_zi (by omega) ?_) hg h (by rw [ho]; decide) (e_Mo_operandSort (b_Mo_operandSort_0 hin (fun z => absurd (e78.symm.trans z) (by decide)) (fun z => absurd (e78.symm.trans z) (by decide)) (fun z => absurd (e78.symm.trans z) (by decide)) (fun z => absurd (e78.symm.trans z) (by decide)) (fun z => absurd (e78.symm.trans z) (by decide)) (fun z => absurd (e78.symm.trans z) (by decide)) (fun z => absurd (e78.symm.trans z) (by decide)) (fun z => absurd (e78.symm.trans z) (by decide)) (fun z => absurd (e78.symm.trans z) (by decide)) (fun _ => ?_) (fun z => absurd (e78.symm.trans z) (by decide)) (fun z => absurd (e78.symm.trans z) (by decide)) (fun z => absurd (e78.symm.trans z) (by decide)) (fun z => absurd (e78.symm.trans z) (by decide)) (fun z => absurd (e78.symm.trans z) (by decide)) (fun _ _ _ _ _ _ _ _ _ q _ _ _ _ _ => absurd e78 q)))
  refine b_Mo_operandSort_553 (R := fun T' => T' = zi (zi (zi (zi T 106 j (T.1 99 (m + 1))) 73 43 (nI (m + 1))) 98 m 1) 99 m (T.1 81 j)) hg (e_Mo_bitSort (b_Mo_bitSort_0 hg (wm_must hg h43 hm) (fun A eA => ?_))) (fun A eA => b_Mo_operandSort_558 (b_Mo_operandSort_600 ⟨rfl, eA⟩))
  have e2 : mMu T (m + 1) 0 = T := by unfold mMu; rw [if_neg (fun q => q.2 hA)]
  rw [eA, e2]
  refine b_Mo_bitSort_5 hg (wm_mpub hg h43 hm) (fun A eA => ?_)
  have e3 : mPb T (m + 1) = T := by unfold mPb; rw [if_neg (fun q => hB q.2)]
  rw [eA, e3]
  have e1 : T.1 73 43 - 1 = nI (m + 1) := by rw [h43]; exact nI_pred (m + 1)
  have e0 : T.1 73 43 - 1 - 1 = nI m := by rw [e1]; exact nI_pred m
  refine b_Mo_bitSort_9 (fun _ => b_Mo_bitSort_17 (by rw [e1]; exact vp_in_nI hm (by omega)) hin (by rw [e0]; exact vp_in_nI (by omega) (by omega)) ⟨rfl, ?_⟩) (fun z => absurd (by rw [h7]; exact Int32.le_refl _) z)
  rw [e0, e1, ec, nI_clamp (by omega), nI_clamp (by omega)]
theorem r_11a (hg : ip_gk (lg_tbl, vwCl, Gr)) (h : RIx T j mz) (ho : T.1 78 j = 11) (h43 : T.1 73 43 = nI (m + 2)) (hm : m + 1 < 4200) (hA : ¬ T.1 98 (m + 1) = 0) : RG l Gr n w d T j (mF T 5 (T.1 99 (m + 1))) (j + 1) := by
  have hmz := h.2.1
  have h7 := h.2.2.1
  have hlt := h.2.2.2
  have hj : j < 12000 := by omega
  have hin : vp_in (nI j) 12000 := vp_in_nI hj (by omega)
  have ec : (nI j).toNatClampNeg = j := nI_clamp (by omega)
  have e78 : T.1 78 (nI j).toNatClampNeg = 11 := by rw [ec]; exact ho
  refine rg_O (by (try simp only [mPl, mRf, mF, mMu, mPb, mSy, mT]); repeat first | exact KMf_rfl | refine KMf_ite ?_ ?_ | refine KMf_zi (by omega) ?_) hg h (by rw [ho]; decide) (e_Mo_operandSort (b_Mo_operandSort_0 hin (fun z => absurd (e78.symm.trans z) (by decide)) (fun z => absurd (e78.symm.trans z) (by decide)) (fun z => absurd (e78.symm.trans z) (by decide)) (fun z => absurd (e78.symm.trans z) (by decide)) (fun z => absurd (e78.symm.trans z) (by decide)) (fun z => absurd (e78.symm.trans z) (by decide)) (fun z => absurd (e78.symm.trans z) (by decide)) (fun z => absurd (e78.symm.trans z) (by decide)) (fun z => absurd (e78.symm.trans z) (by decide)) (fun _ => ?_) (fun z => absurd (e78.symm.trans z) (by decide)) (fun z => absurd (e78.symm.trans z) (by decide)) (fun z => absurd (e78.symm.trans z) (by decide)) (fun z => absurd (e78.symm.trans z) (by decide)) (fun z => absurd (e78.symm.trans z) (by decide)) (fun _ _ _ _ _ _ _ _ _ q _ _ _ _ _ => absurd e78 q)))
  refine b_Mo_operandSort_553 (R := fun T' => T' = mF T 5 (T.1 99 (m + 1))) hg (e_Mo_bitSort (b_Mo_bitSort_0 hg (wm_must hg h43 hm) (fun A eA => ?_))) (fun A eA => b_Mo_operandSort_558 (b_Mo_operandSort_600 ⟨rfl, eA⟩))
  have e2 : mMu T (m + 1) 0 = mF T 5 (T.1 99 (m + 1)) := by unfold mMu; rw [if_pos ⟨h7, hA⟩]
  rw [eA, e2]
  have f7 : (mF T 5 (T.1 99 (m + 1))).1 73 7 = 5 := mF_f.1
  refine b_Mo_bitSort_5 hg (wm_mpub hg ((mF_c' (by omega)).trans h43) hm) (fun A eA => ?_)
  have e3 : mPb (mF T 5 (T.1 99 (m + 1))) (m + 1) = mF T 5 (T.1 99 (m + 1)) := by unfold mPb; rw [if_neg (fun q => absurd (f7.symm.trans q.1) (by decide))]
  rw [eA, e3]
  exact b_Mo_bitSort_9 (fun z => absurd (by rw [f7] at z; exact z) (by decide)) (fun _ => b_Mo_bitSort_16 ⟨rfl, rfl⟩)
theorem r_11b (hg : ip_gk (lg_tbl, vwCl, Gr)) (h : RIx T j mz) (ho : T.1 78 j = 11) (h43 : T.1 73 43 = nI (m + 2)) (hm : m + 1 < 4200) (hA : T.1 98 (m + 1) = 0) (hB : T.1 100 (m + 1) = 0) : RG l Gr n w d T j (mF T 6 (T.1 99 (m + 1))) (j + 1) := by
  have hmz := h.2.1
  have h7 := h.2.2.1
  have hlt := h.2.2.2
  have hj : j < 12000 := by omega
  have hin : vp_in (nI j) 12000 := vp_in_nI hj (by omega)
  have ec : (nI j).toNatClampNeg = j := nI_clamp (by omega)
  have e78 : T.1 78 (nI j).toNatClampNeg = 11 := by rw [ec]; exact ho
  refine rg_O (by (try simp only [mPl, mRf, mF, mMu, mPb, mSy, mT]); repeat first | exact KMf_rfl | refine KMf_ite ?_ ?_ | refine KMf_zi (by omega) ?_) hg h (by rw [ho]; decide) (e_Mo_operandSort (b_Mo_operandSort_0 hin (fun z => absurd (e78.symm.trans z) (by decide)) (fun z => absurd (e78.symm.trans z) (by decide)) (fun z => absurd (e78.symm.trans z) (by decide)) (fun z => absurd (e78.symm.trans z) (by decide)) (fun z => absurd (e78.symm.trans z) (by decide)) (fun z => absurd (e78.symm.trans z) (by decide)) (fun z => absurd (e78.symm.trans z) (by decide)) (fun z => absurd (e78.symm.trans z) (by decide)) (fun z => absurd (e78.symm.trans z) (by decide)) (fun _ => ?_) (fun z => absurd (e78.symm.trans z) (by decide)) (fun z => absurd (e78.symm.trans z) (by decide)) (fun z => absurd (e78.symm.trans z) (by decide)) (fun z => absurd (e78.symm.trans z) (by decide)) (fun z => absurd (e78.symm.trans z) (by decide)) (fun _ _ _ _ _ _ _ _ _ q _ _ _ _ _ => absurd e78 q)))
  refine b_Mo_operandSort_553 (R := fun T' => T' = mF T 6 (T.1 99 (m + 1))) hg (e_Mo_bitSort (b_Mo_bitSort_0 hg (wm_must hg h43 hm) (fun A eA => ?_))) (fun A eA => b_Mo_operandSort_558 (b_Mo_operandSort_600 ⟨rfl, eA⟩))
  have e2 : mMu T (m + 1) 0 = T := by unfold mMu; rw [if_neg (fun q => q.2 hA)]
  rw [eA, e2]
  refine b_Mo_bitSort_5 hg (wm_mpub hg h43 hm) (fun A eA => ?_)
  have e3 : mPb T (m + 1) = mF T 6 (T.1 99 (m + 1)) := by unfold mPb; rw [if_pos ⟨h7, hB⟩]
  have f7 : (mF T 6 (T.1 99 (m + 1))).1 73 7 = 6 := mF_f.1
  rw [eA, e3]
  exact b_Mo_bitSort_9 (fun z => absurd (by rw [f7] at z; exact z) (by decide)) (fun _ => b_Mo_bitSort_16 ⟨rfl, rfl⟩)
theorem r_5n (hg : ip_gk (lg_tbl, vwCl, Gr)) (h : RIx T j mz) (ho : T.1 78 j = 5) (h34 : T.1 73 34 = nI M) (hM : M ≤ 2500) (hv : mv T (T.1 79 j) M = -1) : RG l Gr n w d T j (mF T 4 (T.1 81 j)) (j + 1) := by
  have hmz := h.2.1
  have h7 := h.2.2.1
  have hlt := h.2.2.2
  have hj : j < 12000 := by omega
  have hin : vp_in (nI j) 12000 := vp_in_nI hj (by omega)
  have ec : (nI j).toNatClampNeg = j := nI_clamp (by omega)
  have e78 : T.1 78 (nI j).toNatClampNeg = 5 := by rw [ec]; exact ho
  refine rg_O (by (try simp only [mPl, mRf, mF, mMu, mPb, mSy, mT]); repeat first | exact KMf_rfl | refine KMf_ite ?_ ?_ | refine KMf_zi (by omega) ?_) hg h (by rw [ho]; decide) (e_Mo_operandSort (b_Mo_operandSort_0 hin (fun z => absurd (e78.symm.trans z) (by decide)) (fun z => absurd (e78.symm.trans z) (by decide)) (fun z => absurd (e78.symm.trans z) (by decide)) (fun _ => ?_) (fun z => absurd (e78.symm.trans z) (by decide)) (fun z => absurd (e78.symm.trans z) (by decide)) (fun z => absurd (e78.symm.trans z) (by decide)) (fun z => absurd (e78.symm.trans z) (by decide)) (fun z => absurd (e78.symm.trans z) (by decide)) (fun z => absurd (e78.symm.trans z) (by decide)) (fun z => absurd (e78.symm.trans z) (by decide)) (fun z => absurd (e78.symm.trans z) (by decide)) (fun z => absurd (e78.symm.trans z) (by decide)) (fun z => absurd (e78.symm.trans z) (by decide)) (fun z => absurd (e78.symm.trans z) (by decide)) (fun _ _ _ q _ _ _ _ _ _ _ _ _ _ _ => absurd e78 q)))
  have f7 : ¬ (mF T 4 (T.1 81 j)).1 73 7 = 0 := by rw [mF_f.1]; decide
  rw [ec]
  refine b_Mo_operandSort_108 hg (wm_used hg h34 hM hj) (fun x A hA => ?_)
  rw [hA.1, hA.2, hv, if_pos rfl, mT_0 h7]
  exact b_Mo_operandSort_113 (fun _ => b_Mo_operandSort_146 (fun _ => b_Mo_operandSort_600 ⟨rfl, rfl⟩) (fun z => absurd z f7)) (fun z => absurd z f7)
theorem r_5 (hg : ip_gk (lg_tbl, vwCl, Gr)) (h : RIx T j mz) (ho : T.1 78 j = 5) (h34 : T.1 73 34 = nI M) (hM : M ≤ 2500) (hv : mv T (T.1 79 j) M = nI s) (hs : s < 2500) (h43 : T.1 73 43 = nI m) (hm : m < 4200) : RG l Gr n w d T j (if 0 < T.1 93 s ∨ T.1 91 s = 5 then mF T 5 (T.1 81 j) else mPl (mRf T j s) m (T.1 92 s) (T.1 81 j) (if T.1 91 s = 3 then 1 else 0)) (j + 1) := by
  have hmz := h.2.1
  have h7 := h.2.2.1
  have hlt := h.2.2.2
  have hj : j < 12000 := by omega
  have hin : vp_in (nI j) 12000 := vp_in_nI hj (by omega)
  have ec : (nI j).toNatClampNeg = j := nI_clamp (by omega)
  have e78 : T.1 78 (nI j).toNatClampNeg = 5 := by rw [ec]; exact ho
  refine rg_O (by (try simp only [mPl, mRf, mF, mMu, mPb, mSy, mT]); repeat first | exact KMf_rfl | refine KMf_ite ?_ ?_ | refine KMf_zi (by omega) ?_) hg h (by rw [ho]; decide) (e_Mo_operandSort (b_Mo_operandSort_0 hin (fun z => absurd (e78.symm.trans z) (by decide)) (fun z => absurd (e78.symm.trans z) (by decide)) (fun z => absurd (e78.symm.trans z) (by decide)) (fun _ => ?_) (fun z => absurd (e78.symm.trans z) (by decide)) (fun z => absurd (e78.symm.trans z) (by decide)) (fun z => absurd (e78.symm.trans z) (by decide)) (fun z => absurd (e78.symm.trans z) (by decide)) (fun z => absurd (e78.symm.trans z) (by decide)) (fun z => absurd (e78.symm.trans z) (by decide)) (fun z => absurd (e78.symm.trans z) (by decide)) (fun z => absurd (e78.symm.trans z) (by decide)) (fun z => absurd (e78.symm.trans z) (by decide)) (fun z => absurd (e78.symm.trans z) (by decide)) (fun z => absurd (e78.symm.trans z) (by decide)) (fun _ _ _ q _ _ _ _ _ _ _ _ _ _ _ => absurd e78 q)))
  rw [ec]
  have hns := nI_no (v := s) (by omega)
  have hsn : vp_in (nI s) 2500 := vp_in_nI hs (by omega)
  have cs : (nI s).toNatClampNeg = s := nI_clamp (by omega)
  have f7 : ¬ (mF T 5 (T.1 81 j)).1 73 7 = 0 := by rw [mF_f.1]; decide
  refine b_Mo_operandSort_108 hg (wm_used hg h34 hM hj) (fun x A hA => ?_)
  rw [hA.1, hA.2, hv, if_neg hns]
  have bad : (0 < T.1 93 s ∨ T.1 91 s = 5) → zW l Gr (zc n w) 168 M_Mo_operandSort (d + 3) 140 [some (.ref 105), some (.int (nI j)), some (.int (T.1 81 j)), some (.int (nI s)), none] [] T (fun v T' => v = none ∧ T' = if 0 < T.1 93 s ∨ T.1 91 s = 5 then mF T 5 (T.1 81 j) else mPl (mRf T j s) m (T.1 92 s) (T.1 81 j) (if T.1 91 s = 3 then 1 else 0)) := fun hb => by
    refine b_Mo_operandSort_140 hg (wm_fail h7) (fun A eA => ?_)
    rw [eA]
    exact b_Mo_operandSort_146 (fun _ => b_Mo_operandSort_600 ⟨rfl, by rw [if_pos hb]⟩) (fun z => absurd z f7)
  have good : ¬ (0 < T.1 93 s ∨ T.1 91 s = 5) → zW l Gr (zc n w) 168 M_Mo_operandSort (d + 3) 146 [some (.ref 105), some (.int (nI j)), some (.int (T.1 81 j)), some (.int (nI s)), none] [] T (fun v T' => v = none ∧ T' = if 0 < T.1 93 s ∨ T.1 91 s = 5 then mF T 5 (T.1 81 j) else mPl (mRf T j s) m (T.1 92 s) (T.1 81 j) (if T.1 91 s = 3 then 1 else 0)) := fun hb => by
    rw [if_neg hb]
    refine b_Mo_operandSort_146 (fun z => absurd h7 z) (fun _ => b_Mo_operandSort_153 hg (wm_ref hs hj) (fun A eA => ?_))
    rw [eA]
    have c91 : (mRf T j s).1 91 s = T.1 91 s := mRf_c (by omega)
    have c92 : (mRf T j s).1 92 s = T.1 92 s := mRf_c (by omega)
    have y43 : (mRf T j s).1 73 43 = nI m := (mRf_c (by omega)).trans h43
    refine b_Mo_operandSort_159 hsn (fun z => b_Mo_operandSort_181 ?_) (fun z => b_Mo_operandSort_177 ?_)
    · rw [cs, c91] at z
      rw [cs, c92, if_neg z]
      exact b_Mo_operandSort_182 hg (wm_pile y43 hm) (fun A eA => b_Mo_operandSort_185 (b_Mo_operandSort_600 ⟨rfl, eA⟩))
    · rw [cs, c91] at z
      rw [cs, c92, if_pos z]
      exact b_Mo_operandSort_182 hg (wm_pile y43 hm) (fun A eA => b_Mo_operandSort_185 (b_Mo_operandSort_600 ⟨rfl, eA⟩))
  refine b_Mo_operandSort_113 (fun z => absurd h7 z) (fun _ => b_Mo_operandSort_121 hsn (fun z => bad (Or.inl ?_)) (fun z => b_Mo_operandSort_130 hsn (fun z2 => good (fun q => ?_)) (fun z2 => bad (Or.inr ?_))))
  · rw [cs] at z; exact z
  · rw [cs] at z z2; exact q.elim z z2
  · rw [cs] at z2; exact z2
theorem r_6n (hg : ip_gk (lg_tbl, vwCl, Gr)) (h : RIx T j mz) (ho : T.1 78 j = 6) (h34 : T.1 73 34 = nI M) (hM : M ≤ 2500) (hv : mv T (T.1 79 j) M = -1) : RG l Gr n w d T j (mF T 4 (T.1 81 j)) (j + 1) := by
  have hmz := h.2.1
  have h7 := h.2.2.1
  have hlt := h.2.2.2
  have hj : j < 12000 := by omega
  have hin : vp_in (nI j) 12000 := vp_in_nI hj (by omega)
  have ec : (nI j).toNatClampNeg = j := nI_clamp (by omega)
  have e78 : T.1 78 (nI j).toNatClampNeg = 6 := by rw [ec]; exact ho
  refine rg_O (by (try simp only [mPl, mRf, mF, mMu, mPb, mSy, mT]); repeat first | exact KMf_rfl | refine KMf_ite ?_ ?_ | refine KMf_zi (by omega) ?_) hg h (by rw [ho]; decide) (e_Mo_operandSort (b_Mo_operandSort_0 hin (fun z => absurd (e78.symm.trans z) (by decide)) (fun z => absurd (e78.symm.trans z) (by decide)) (fun z => absurd (e78.symm.trans z) (by decide)) (fun z => absurd (e78.symm.trans z) (by decide)) (fun _ => ?_) (fun z => absurd (e78.symm.trans z) (by decide)) (fun z => absurd (e78.symm.trans z) (by decide)) (fun z => absurd (e78.symm.trans z) (by decide)) (fun z => absurd (e78.symm.trans z) (by decide)) (fun z => absurd (e78.symm.trans z) (by decide)) (fun z => absurd (e78.symm.trans z) (by decide)) (fun z => absurd (e78.symm.trans z) (by decide)) (fun z => absurd (e78.symm.trans z) (by decide)) (fun z => absurd (e78.symm.trans z) (by decide)) (fun z => absurd (e78.symm.trans z) (by decide)) (fun _ _ _ _ q _ _ _ _ _ _ _ _ _ _ => absurd e78 q)))
  have f7 : ¬ (mF T 4 (T.1 81 j)).1 73 7 = 0 := by rw [mF_f.1]; decide
  rw [ec]
  refine b_Mo_operandSort_188 hg (wm_used hg h34 hM hj) (fun x A hA => ?_)
  rw [hA.1, hA.2, hv, if_pos rfl, mT_0 h7]
  exact b_Mo_operandSort_193 (fun _ => b_Mo_operandSort_600 ⟨rfl, rfl⟩) (fun z => absurd z f7)
theorem r_6 (hg : ip_gk (lg_tbl, vwCl, Gr)) (h : RIx T j mz) (ho : T.1 78 j = 6) (h34 : T.1 73 34 = nI M) (hM : M ≤ 2500) (hv : mv T (T.1 79 j) M = nI s) (hs : s < 2500) : RG l Gr n w d T j (if T.1 93 s = 0 then mF T 5 (T.1 81 j) else T) (j + 1) := by
  have hmz := h.2.1
  have h7 := h.2.2.1
  have hlt := h.2.2.2
  have hj : j < 12000 := by omega
  have hin : vp_in (nI j) 12000 := vp_in_nI hj (by omega)
  have ec : (nI j).toNatClampNeg = j := nI_clamp (by omega)
  have e78 : T.1 78 (nI j).toNatClampNeg = 6 := by rw [ec]; exact ho
  refine rg_O (by (try simp only [mPl, mRf, mF, mMu, mPb, mSy, mT]); repeat first | exact KMf_rfl | refine KMf_ite ?_ ?_ | refine KMf_zi (by omega) ?_) hg h (by rw [ho]; decide) (e_Mo_operandSort (b_Mo_operandSort_0 hin (fun z => absurd (e78.symm.trans z) (by decide)) (fun z => absurd (e78.symm.trans z) (by decide)) (fun z => absurd (e78.symm.trans z) (by decide)) (fun z => absurd (e78.symm.trans z) (by decide)) (fun _ => ?_) (fun z => absurd (e78.symm.trans z) (by decide)) (fun z => absurd (e78.symm.trans z) (by decide)) (fun z => absurd (e78.symm.trans z) (by decide)) (fun z => absurd (e78.symm.trans z) (by decide)) (fun z => absurd (e78.symm.trans z) (by decide)) (fun z => absurd (e78.symm.trans z) (by decide)) (fun z => absurd (e78.symm.trans z) (by decide)) (fun z => absurd (e78.symm.trans z) (by decide)) (fun z => absurd (e78.symm.trans z) (by decide)) (fun z => absurd (e78.symm.trans z) (by decide)) (fun _ _ _ _ q _ _ _ _ _ _ _ _ _ _ => absurd e78 q)))
  rw [ec]
  have hns := nI_no (v := s) (by omega)
  have hsn : vp_in (nI s) 2500 := vp_in_nI hs (by omega)
  have cs : (nI s).toNatClampNeg = s := nI_clamp (by omega)
  refine b_Mo_operandSort_188 hg (wm_used hg h34 hM hj) (fun x A hA => ?_)
  rw [hA.1, hA.2, hv, if_neg hns]
  refine b_Mo_operandSort_193 (fun z => absurd h7 z) (fun _ => b_Mo_operandSort_201 hsn (fun z => b_Mo_operandSort_600 ⟨rfl, ?_⟩) (fun z => b_Mo_operandSort_210 hg (wm_fail h7) (fun A eA => b_Mo_operandSort_216 (b_Mo_operandSort_600 ⟨rfl, ?_⟩))))
  · rw [cs] at z; rw [if_neg z]
  · rw [cs] at z; rw [eA, if_pos z]
theorem r_7a (hg : ip_gk (lg_tbl, vwCl, Gr)) (h : RIx T j mz) (ho : T.1 78 j = 7) (h34 : T.1 73 34 = nI M) (hM : M ≤ 2500) (h43 : T.1 73 43 = nI (m + 1)) (hm : m < 4200) (hA : ¬ T.1 98 m = 0) : RG l Gr n w d T j (mF T 5 (T.1 99 m)) (j + 1) := by
  have hmz := h.2.1
  have h7 := h.2.2.1
  have hlt := h.2.2.2
  have hj : j < 12000 := by omega
  have hin : vp_in (nI j) 12000 := vp_in_nI hj (by omega)
  have ec : (nI j).toNatClampNeg = j := nI_clamp (by omega)
  have e78 : T.1 78 (nI j).toNatClampNeg = 7 := by rw [ec]; exact ho
  refine rg_O (by (try simp only [mPl, mRf, mF, mMu, mPb, mSy, mT]); repeat first | exact KMf_rfl | refine KMf_ite ?_ ?_ | refine KMf_zi (by omega) ?_) hg h (by rw [ho]; decide) (e_Mo_operandSort (b_Mo_operandSort_0 hin (fun z => absurd (e78.symm.trans z) (by decide)) (fun z => absurd (e78.symm.trans z) (by decide)) (fun z => absurd (e78.symm.trans z) (by decide)) (fun z => absurd (e78.symm.trans z) (by decide)) (fun z => absurd (e78.symm.trans z) (by decide)) (fun _ => ?_) (fun z => absurd (e78.symm.trans z) (by decide)) (fun z => absurd (e78.symm.trans z) (by decide)) (fun z => absurd (e78.symm.trans z) (by decide)) (fun z => absurd (e78.symm.trans z) (by decide)) (fun z => absurd (e78.symm.trans z) (by decide)) (fun z => absurd (e78.symm.trans z) (by decide)) (fun z => absurd (e78.symm.trans z) (by decide)) (fun z => absurd (e78.symm.trans z) (by decide)) (fun z => absurd (e78.symm.trans z) (by decide)) (fun _ _ _ _ _ q _ _ _ _ _ _ _ _ _ => absurd e78 q)))
  rw [ec]
  have f7 : ¬ (mF T 5 (T.1 99 m)).1 73 7 = 0 := by rw [mF_f.1]; decide
  refine b_Mo_operandSort_219 hg (wm_must hg h43 hm) (fun A eA => ?_)
  have e2 : mMu T m 0 = mF T 5 (T.1 99 m) := by unfold mMu; rw [if_pos ⟨h7, hA⟩]
  rw [eA, e2]
  refine b_Mo_operandSort_224 hg hin (wm_vis (m := M) ((mF_c' (by omega)).trans h34) hM) (fun x A hA => ?_)
  rw [hA.1]
  exact b_Mo_operandSort_234 (fun _ => b_Mo_operandSort_600 ⟨rfl, rfl⟩) (fun z => absurd z f7)
theorem r_7 (hg : ip_gk (lg_tbl, vwCl, Gr)) (h : RIx T j mz) (ho : T.1 78 j = 7) (h34 : T.1 73 34 = nI M) (hM : M ≤ 2500) (hv : mv T (T.1 79 j) M = nI s) (hs : s < 2500) (h43 : T.1 73 43 = nI (m + 1)) (hm : m < 4200) (hA : T.1 98 m = 0) : RG l Gr n w d T j (mPl (zi (zi (zi (mRf T j s) 106 j (T.1 99 m)) 107 j (T.1 100 m &&& 1)) 73 43 (nI m)) m (T.1 92 s) (T.1 81 j) 0) (j + 1) := by
  have hmz := h.2.1
  have h7 := h.2.2.1
  have hlt := h.2.2.2
  have hj : j < 12000 := by omega
  have hin : vp_in (nI j) 12000 := vp_in_nI hj (by omega)
  have ec : (nI j).toNatClampNeg = j := nI_clamp (by omega)
  have e78 : T.1 78 (nI j).toNatClampNeg = 7 := by rw [ec]; exact ho
  refine rg_O (by (try simp only [mPl, mRf, mF, mMu, mPb, mSy, mT]); repeat first | exact KMf_rfl | refine KMf_ite ?_ ?_ | refine KMf_zi (by omega) ?_) hg h (by rw [ho]; decide) (e_Mo_operandSort (b_Mo_operandSort_0 hin (fun z => absurd (e78.symm.trans z) (by decide)) (fun z => absurd (e78.symm.trans z) (by decide)) (fun z => absurd (e78.symm.trans z) (by decide)) (fun z => absurd (e78.symm.trans z) (by decide)) (fun z => absurd (e78.symm.trans z) (by decide)) (fun _ => ?_) (fun z => absurd (e78.symm.trans z) (by decide)) (fun z => absurd (e78.symm.trans z) (by decide)) (fun z => absurd (e78.symm.trans z) (by decide)) (fun z => absurd (e78.symm.trans z) (by decide)) (fun z => absurd (e78.symm.trans z) (by decide)) (fun z => absurd (e78.symm.trans z) (by decide)) (fun z => absurd (e78.symm.trans z) (by decide)) (fun z => absurd (e78.symm.trans z) (by decide)) (fun z => absurd (e78.symm.trans z) (by decide)) (fun _ _ _ _ _ q _ _ _ _ _ _ _ _ _ => absurd e78 q)))
  rw [ec]
  have hsn : vp_in (nI s) 2500 := vp_in_nI hs (by omega)
  have cs : (nI s).toNatClampNeg = s := nI_clamp (by omega)
  refine b_Mo_operandSort_219 hg (wm_must hg h43 hm) (fun A eA => ?_)
  have e2 : mMu T m 0 = T := by unfold mMu; rw [if_neg (fun q => q.2 hA)]
  rw [eA, e2]
  refine b_Mo_operandSort_224 hg hin (wm_vis (m := M) h34 hM) (fun x A hA => ?_)
  rw [hA.1, hA.2, ec, hv]
  refine b_Mo_operandSort_234 (fun z => absurd h7 z) (fun _ => b_Mo_operandSort_242 hg (wm_ref hs hj) (fun A eA => ?_))
  rw [eA]
  have e1 : (mRf T j s).1 73 43 - 1 = nI m := by rw [mRf_c (by omega), h43]; exact nI_pred m
  refine b_Mo_operandSort_248 (R := fun T' => T' = mPl (zi (zi (zi (mRf T j s) 106 j (T.1 99 m)) 107 j (T.1 100 m &&& 1)) 73 43 (nI m)) m (T.1 92 s) (T.1 81 j) 0) hg (by rw [e1]; exact vp_in_nI hm (by omega)) hin hsn ?_ (fun A eA => b_Mo_operandSort_304 (b_Mo_operandSort_600 ⟨rfl, eA⟩))
  rw [e1, nI_clamp (n := m) (by omega), ec, cs, mRf_c (c := 92) (by omega), mRf_c (c := 99) (by omega), mRf_c (c := 100) (by omega)]
  exact wm_pile zi_v hm
theorem r_8n (hg : ip_gk (lg_tbl, vwCl, Gr)) (h : RIx T j mz) (ho : T.1 78 j = 8) (h34 : T.1 73 34 = nI M) (hM : M ≤ 2500) (hv : mv T (T.1 79 j) M = -1) : RG l Gr n w d T j (mF T 4 (T.1 81 j)) (j + 1) := by
  have hmz := h.2.1
  have h7 := h.2.2.1
  have hlt := h.2.2.2
  have hj : j < 12000 := by omega
  have hin : vp_in (nI j) 12000 := vp_in_nI hj (by omega)
  have ec : (nI j).toNatClampNeg = j := nI_clamp (by omega)
  have e78 : T.1 78 (nI j).toNatClampNeg = 8 := by rw [ec]; exact ho
  refine rg_O (by (try simp only [mPl, mRf, mF, mMu, mPb, mSy, mT]); repeat first | exact KMf_rfl | refine KMf_ite ?_ ?_ | refine KMf_zi (by omega) ?_) hg h (by rw [ho]; decide) (e_Mo_operandSort (b_Mo_operandSort_0 hin (fun z => absurd (e78.symm.trans z) (by decide)) (fun z => absurd (e78.symm.trans z) (by decide)) (fun z => absurd (e78.symm.trans z) (by decide)) (fun z => absurd (e78.symm.trans z) (by decide)) (fun z => absurd (e78.symm.trans z) (by decide)) (fun z => absurd (e78.symm.trans z) (by decide)) (fun _ => ?_) (fun z => absurd (e78.symm.trans z) (by decide)) (fun z => absurd (e78.symm.trans z) (by decide)) (fun z => absurd (e78.symm.trans z) (by decide)) (fun z => absurd (e78.symm.trans z) (by decide)) (fun z => absurd (e78.symm.trans z) (by decide)) (fun z => absurd (e78.symm.trans z) (by decide)) (fun z => absurd (e78.symm.trans z) (by decide)) (fun z => absurd (e78.symm.trans z) (by decide)) (fun _ _ _ _ _ _ q _ _ _ _ _ _ _ _ => absurd e78 q)))
  have f7 : ¬ (mF T 4 (T.1 81 j)).1 73 7 = 0 := by rw [mF_f.1]; decide
  rw [ec]
  refine b_Mo_operandSort_307 hg (wm_used hg h34 hM hj) (fun x A hA => ?_)
  rw [hA.1, hA.2, hv, if_pos rfl, mT_0 h7]
  exact b_Mo_operandSort_312 (fun _ => b_Mo_operandSort_351 (fun _ => b_Mo_operandSort_600 ⟨rfl, rfl⟩) (fun z => absurd z f7)) (fun z => absurd z f7)
theorem r_8 (hg : ip_gk (lg_tbl, vwCl, Gr)) (h : RIx T j mz) (ho : T.1 78 j = 8) (h34 : T.1 73 34 = nI M) (hM : M ≤ 2500) (hv : mv T (T.1 79 j) M = nI s) (hs : s < 2500) (h56 : T.1 73 56 = nI c) (hc : c < 400) : RG l Gr n w d T j (if T.1 91 s = 5 ∧ T.1 97 s = T.1 80 j then zi (zi (zi T 108 c (nI s)) 109 c (T.1 73 43)) 73 56 (nI (c + 1)) else mF T 5 (T.1 81 j)) (j + 1) := by
  have hmz := h.2.1
  have h7 := h.2.2.1
  have hlt := h.2.2.2
  have hj : j < 12000 := by omega
  have hin : vp_in (nI j) 12000 := vp_in_nI hj (by omega)
  have ec : (nI j).toNatClampNeg = j := nI_clamp (by omega)
  have e78 : T.1 78 (nI j).toNatClampNeg = 8 := by rw [ec]; exact ho
  refine rg_O (by (try simp only [mPl, mRf, mF, mMu, mPb, mSy, mT]); repeat first | exact KMf_rfl | refine KMf_ite ?_ ?_ | refine KMf_zi (by omega) ?_) hg h (by rw [ho]; decide) (e_Mo_operandSort (b_Mo_operandSort_0 hin (fun z => absurd (e78.symm.trans z) (by decide)) (fun z => absurd (e78.symm.trans z) (by decide)) (fun z => absurd (e78.symm.trans z) (by decide)) (fun z => absurd (e78.symm.trans z) (by decide)) (fun z => absurd (e78.symm.trans z) (by decide)) (fun z => absurd (e78.symm.trans z) (by decide)) (fun _ => ?_) (fun z => absurd (e78.symm.trans z) (by decide)) (fun z => absurd (e78.symm.trans z) (by decide)) (fun z => absurd (e78.symm.trans z) (by decide)) (fun z => absurd (e78.symm.trans z) (by decide)) (fun z => absurd (e78.symm.trans z) (by decide)) (fun z => absurd (e78.symm.trans z) (by decide)) (fun z => absurd (e78.symm.trans z) (by decide)) (fun z => absurd (e78.symm.trans z) (by decide)) (fun _ _ _ _ _ _ q _ _ _ _ _ _ _ _ => absurd e78 q)))
  rw [ec]
  have hns := nI_no (v := s) (by omega)
  have hsn : vp_in (nI s) 2500 := vp_in_nI hs (by omega)
  have cs : (nI s).toNatClampNeg = s := nI_clamp (by omega)
  have f7 : ¬ (mF T 5 (T.1 81 j)).1 73 7 = 0 := by rw [mF_f.1]; decide
  refine b_Mo_operandSort_307 hg (wm_used hg h34 hM hj) (fun x A hA => ?_)
  rw [hA.1, hA.2, hv, if_neg hns]
  have bad : ¬ (T.1 91 s = 5 ∧ T.1 97 s = T.1 80 j) → zW l Gr (zc n w) 168 M_Mo_operandSort (d + 3) 345 [some (.ref 105), none, some (.int (T.1 81 j)), some (.int (nI s)), none] [] T (fun v T' => v = none ∧ T' = if T.1 91 s = 5 ∧ T.1 97 s = T.1 80 j then zi (zi (zi T 108 c (nI s)) 109 c (T.1 73 43)) 73 56 (nI (c + 1)) else mF T 5 (T.1 81 j)) := fun hb => by
    refine b_Mo_operandSort_345 hg (wm_fail h7) (fun A eA => ?_)
    rw [eA]
    exact b_Mo_operandSort_351 (fun _ => b_Mo_operandSort_600 ⟨rfl, by rw [if_neg hb]⟩) (fun z => absurd z f7)
  refine b_Mo_operandSort_312 (fun z => absurd h7 z) (fun _ => b_Mo_operandSort_320 hsn (fun z => bad (fun q => z ?_)) (fun z => b_Mo_operandSort_330 hsn hin (fun z2 => b_Mo_operandSort_351 (fun y => absurd h7 y) (fun _ => b_Mo_operandSort_358 (by rw [h56]; exact vp_in_nI hc (by omega)) (b_Mo_operandSort_600 ⟨rfl, ?_⟩))) (fun z2 => bad (fun q => z2 ?_))))
  · rw [cs]; exact q.1
  · rw [cs] at z z2
    rw [ec] at z2
    rw [if_pos ⟨z, z2⟩, h56, nI_clamp (by omega), nI_1]
  · rw [cs, ec]; exact q.2
theorem r_9 (hg : ip_gk (lg_tbl, vwCl, Gr)) (h : RIx T j mz) (ho : T.1 78 j = 9) (h56 : T.1 73 56 = nI (c + 1)) (hc : c < 400) (h108 : T.1 108 c = nI s) (hs : s < 2500) (h109 : T.1 109 c = nI m0) (hm : m0 < 4200) : RG l Gr n w d T j (mPl (zi (mRf (zi T 73 56 (nI c)) j s) 73 43 (nI m0)) m0 (T.1 92 s) (T.1 81 j) 0) (j + 1) := by
  have hmz := h.2.1
  have h7 := h.2.2.1
  have hlt := h.2.2.2
  have hj : j < 12000 := by omega
  have hin : vp_in (nI j) 12000 := vp_in_nI hj (by omega)
  have ec : (nI j).toNatClampNeg = j := nI_clamp (by omega)
  have e78 : T.1 78 (nI j).toNatClampNeg = 9 := by rw [ec]; exact ho
  refine rg_O (by (try simp only [mPl, mRf, mF, mMu, mPb, mSy, mT]); repeat first | exact KMf_rfl | refine KMf_ite ?_ ?_ | refine KMf_zi (by omega) ?_) hg h (by rw [ho]; decide) (e_Mo_operandSort (b_Mo_operandSort_0 hin (fun z => absurd (e78.symm.trans z) (by decide)) (fun z => absurd (e78.symm.trans z) (by decide)) (fun z => absurd (e78.symm.trans z) (by decide)) (fun z => absurd (e78.symm.trans z) (by decide)) (fun z => absurd (e78.symm.trans z) (by decide)) (fun z => absurd (e78.symm.trans z) (by decide)) (fun z => absurd (e78.symm.trans z) (by decide)) (fun _ => ?_) (fun z => absurd (e78.symm.trans z) (by decide)) (fun z => absurd (e78.symm.trans z) (by decide)) (fun z => absurd (e78.symm.trans z) (by decide)) (fun z => absurd (e78.symm.trans z) (by decide)) (fun z => absurd (e78.symm.trans z) (by decide)) (fun z => absurd (e78.symm.trans z) (by decide)) (fun z => absurd (e78.symm.trans z) (by decide)) (fun _ _ _ _ _ _ _ q _ _ _ _ _ _ _ => absurd e78 q)))
  rw [ec]
  have hsn : vp_in (nI s) 2500 := vp_in_nI hs (by omega)
  have cs : (nI s).toNatClampNeg = s := nI_clamp (by omega)
  have cc : (nI c).toNatClampNeg = c := nI_clamp (by omega)
  have e1 : T.1 73 56 - 1 = nI c := by rw [h56]; exact nI_pred c
  refine b_Mo_operandSort_467 (R := fun T' => T' = mRf (zi T 73 56 (nI c)) j s) hg (by rw [e1]; exact vp_in_nI hc (by omega)) ?_ (fun A eA => ?_)
  · rw [e1, cc, h108]
    exact wm_ref hs hj
  · rw [eA, e1, cc, h108]
    have y56 : (mRf (zi T 73 56 (nI c)) j s).1 73 56 = nI c := (mRf_c (by omega)).trans zi_v
    have y109 : (mRf (zi T 73 56 (nI c)) j s).1 109 c = nI m0 := by rw [mRf_c (by omega), zi_c (by decide)]; exact h109
    have y92 : (mRf (zi T 73 56 (nI c)) j s).1 92 s = T.1 92 s := by rw [mRf_c (by omega), zi_c (by decide)]
    refine b_Mo_operandSort_493 (R := fun T' => T' = mPl (zi (mRf (zi T 73 56 (nI c)) j s) 73 43 (nI m0)) m0 (T.1 92 s) (T.1 81 j) 0) hg (by rw [y56]; exact vp_in_nI hc (by omega)) hsn ?_ (fun A eA => b_Mo_operandSort_518 (b_Mo_operandSort_600 ⟨rfl, eA⟩))
    rw [y56, cc, y109, cs, y92]
    exact wm_pile zi_v hm
theorem r_16i (hg : ip_gk (lg_tbl, vwCl, Gr)) (h : RIx T j mz) (ho : T.1 78 j = 16) (h43 : T.1 73 43 = nI (m + 1)) (hm : m < 4200) (h79 : T.1 79 j = -1) (h56 : T.1 73 56 = nI c) (hc : c ≤ 400) : RG l Gr n w d T j (mMu T m 0) (j + 1) := by
  have hmz := h.2.1
  have h7 := h.2.2.1
  have hlt := h.2.2.2
  have hj : j < 12000 := by omega
  have hin : vp_in (nI j) 12000 := vp_in_nI hj (by omega)
  have ec : (nI j).toNatClampNeg = j := nI_clamp (by omega)
  have e78 : T.1 78 (nI j).toNatClampNeg = 16 := by rw [ec]; exact ho
  refine rg_O (by (try simp only [mPl, mRf, mF, mMu, mPb, mSy, mT]); repeat first | exact KMf_rfl | refine KMf_ite ?_ ?_ | refine KMf_zi (by omega) ?_) hg h (by rw [ho]; decide) (e_Mo_operandSort (b_Mo_operandSort_0 hin (fun z => absurd (e78.symm.trans z) (by decide)) (fun z => absurd (e78.symm.trans z) (by decide)) (fun z => absurd (e78.symm.trans z) (by decide)) (fun z => absurd (e78.symm.trans z) (by decide)) (fun z => absurd (e78.symm.trans z) (by decide)) (fun z => absurd (e78.symm.trans z) (by decide)) (fun z => absurd (e78.symm.trans z) (by decide)) (fun z => absurd (e78.symm.trans z) (by decide)) (fun z => absurd (e78.symm.trans z) (by decide)) (fun z => absurd (e78.symm.trans z) (by decide)) (fun z => absurd (e78.symm.trans z) (by decide)) (fun z => absurd (e78.symm.trans z) (by decide)) (fun z => absurd (e78.symm.trans z) (by decide)) (fun z => absurd (e78.symm.trans z) (by decide)) (fun _ => ?_) (fun _ _ _ _ _ _ _ _ _ _ _ _ _ _ q => absurd e78 q)))
  have k411 : ∀ x : Int32, vp_in x 400 → zW l Gr (zc n w) 168 M_Mo_operandSort (d + 3) 411 [some (.ref 105), some (.int (nI j)), none, none, none] [.int x] T (fun v T' => v = none ∧ T' = mMu T m 0) := fun x hx =>
    b_Mo_operandSort_411 hx hin (fun z => absurd (by rw [ec]; exact h79) z) (fun _ => b_Mo_operandSort_438 (b_Mo_operandSort_461 hg (wm_must hg h43 hm) (fun A eA => b_Mo_operandSort_464 (b_Mo_operandSort_600 ⟨rfl, eA⟩))))
  refine b_Mo_operandSort_394 (fun _ => b_Mo_operandSort_410 (k411 0 (vp_in_nI (n := 0) (by omega) (by omega)))) (fun z => b_Mo_operandSort_401 (k411 _ ?_))
  cases c with
  | zero => exact absurd (by rw [h56]; decide) z
  | succ c => rw [h56, nI_pred]; exact vp_in_nI (by omega) (by omega)
theorem r_16 (hg : ip_gk (lg_tbl, vwCl, Gr)) (h : RIx T j mz) (ho : T.1 78 j = 16) (h43 : T.1 73 43 = nI (m + 1)) (hm : m < 4200) {o : Nat} (h79 : T.1 79 j = nI o) (hoo : o < 12000) (h56 : T.1 73 56 = nI (c + 1)) (hc : c < 400) (h108 : T.1 108 c = nI s) (hs : s < 2500) (h109 : T.1 109 c = nI m0) (hm0 : m0 ≤ m) (h96 : T.1 96 s = nI q) (hq : q + (m - m0) < 1000) : RG l Gr n w d T j (mMu T m (T.1 110 (q + (m - m0)))) (j + 1) := by
  have hmz := h.2.1
  have h7 := h.2.2.1
  have hlt := h.2.2.2
  have hj : j < 12000 := by omega
  have hin : vp_in (nI j) 12000 := vp_in_nI hj (by omega)
  have ec : (nI j).toNatClampNeg = j := nI_clamp (by omega)
  have e78 : T.1 78 (nI j).toNatClampNeg = 16 := by rw [ec]; exact ho
  refine rg_O (by (try simp only [mPl, mRf, mF, mMu, mPb, mSy, mT]); repeat first | exact KMf_rfl | refine KMf_ite ?_ ?_ | refine KMf_zi (by omega) ?_) hg h (by rw [ho]; decide) (e_Mo_operandSort (b_Mo_operandSort_0 hin (fun z => absurd (e78.symm.trans z) (by decide)) (fun z => absurd (e78.symm.trans z) (by decide)) (fun z => absurd (e78.symm.trans z) (by decide)) (fun z => absurd (e78.symm.trans z) (by decide)) (fun z => absurd (e78.symm.trans z) (by decide)) (fun z => absurd (e78.symm.trans z) (by decide)) (fun z => absurd (e78.symm.trans z) (by decide)) (fun z => absurd (e78.symm.trans z) (by decide)) (fun z => absurd (e78.symm.trans z) (by decide)) (fun z => absurd (e78.symm.trans z) (by decide)) (fun z => absurd (e78.symm.trans z) (by decide)) (fun z => absurd (e78.symm.trans z) (by decide)) (fun z => absurd (e78.symm.trans z) (by decide)) (fun z => absurd (e78.symm.trans z) (by decide)) (fun _ => ?_) (fun _ _ _ _ _ _ _ _ _ _ _ _ _ _ q => absurd e78 q)))
  have hsn : vp_in (nI s) 2500 := vp_in_nI hs (by omega)
  have cs : (nI s).toNatClampNeg = s := nI_clamp (by omega)
  have cc : (nI c).toNatClampNeg = c := nI_clamp (by omega)
  have e1 : T.1 73 56 - 1 = nI c := by rw [h56]; exact nI_pred c
  have e2 : T.1 73 43 - 1 - T.1 109 c = nI (m - m0) := by rw [h43, nI_pred, h109, pk_sub hm0]
  refine b_Mo_operandSort_394 (fun z => ?_) (fun _ => b_Mo_operandSort_401 (b_Mo_operandSort_411 (by rw [e1]; exact vp_in_nI hc (by omega)) hin (fun _ => ?_) (fun z => ?_)))
  · rw [h56] at z
    exact absurd z (nI_ge (a := 0) (b := c + 1) (by omega) (by omega))
  · rw [e1, cc, e2]
    refine b_Mo_operandSort_442 (vp_in_nI hc (by omega)) (by rw [cc, h108]; exact hsn) (by rw [cc, h108, cs, h96, nI_add]; exact vp_in_nI hq (by omega)) ?_
    rw [cc, h108, cs, h96, nI_add, nI_clamp (n := q + (m - m0)) (by omega)]
    exact b_Mo_operandSort_461 hg (wm_must hg h43 hm) (fun A eA => b_Mo_operandSort_464 (b_Mo_operandSort_600 ⟨rfl, eA⟩))
  · rw [ec, h79] at z
    exact absurd z (nI_no (by omega))
end MK9
