/-! the reference's SORTS: statements (gm2.py) -/
def mComs (T : zS) (j M : Nat) : zS := if mv T (T.1 79 j) M = -1 then T else mF T 4 (T.1 81 j)
def mSn (T : zS) (F : Nat) : Nat → zS
  | 0 => T
  | u + 1 => zi (mSn T F u) 95 (F + u) 1
section MKB
variable {l : Launch} {Gr : zG} {n w : Nat} {d : Nat} {m m0 M s j mz c q F k : Nat} {T T' X : zS} {v r p pb : Int32}
theorem mComs_c {c k : Nat} (h : ¬ (c = 73 ∧ (k = 7 ∨ k = 8))) : (mComs T j M).1 c k = T.1 c k := by
  unfold mComs
  split
  · rfl
  · exact mF_c' h
theorem mSn_c {c k : Nat} (h : ¬ (c = 95)) : ∀ u, (mSn T F u).1 c k = T.1 c k
  | 0 => rfl
  | u + 1 => by
    show (zi (mSn T F u) 95 (F + u) 1).1 c k = _
    rw [zi_c h]
    exact mSn_c h u
theorem KMf_mSn {T X : zS} {F : Nat} (h : KMf T X) : ∀ u, KMf T (mSn X F u)
  | 0 => h
  | u + 1 => KMf_zi (by omega) (KMf_mSn h u)
theorem r_20 (hg : ip_gk (lg_tbl, vwCl, Gr)) (h : RIx T j mz) (ho : T.1 78 j = 20)  : RG l Gr n w d T j (T) (j + 1) := by
  have hmz := h.2.1
  have h7 := h.2.2.1
  have hlt := h.2.2.2
  have hj : j < 12000 := by omega
  have hin : vp_in (nI j) 12000 := vp_in_nI hj (by omega)
  have ec : (nI j).toNatClampNeg = j := nI_clamp (by omega)
  have e78 : T.1 78 (nI j).toNatClampNeg = 20 := by rw [ec]; exact ho
  refine rg_S (by (try simp only [mPl, mRf, mF, mMu, mPb, mSy, mT, mComs]); repeat first | exact KMf_rfl | refine KMf_ite ?_ ?_ | refine KMf_zi (by omega) ?_) hg h (by rw [ho]; decide) (e_Mo_statementSort (b_Mo_statementSort_0 hin (fun z => absurd (e78.symm.trans z) (by decide)) (fun z => absurd (e78.symm.trans z) (by decide)) (fun z => absurd (e78.symm.trans z) (by decide)) (fun z => absurd (e78.symm.trans z) (by decide)) (fun z => absurd (e78.symm.trans z) (by decide)) (fun z => absurd (e78.symm.trans z) (by decide)) (fun z => absurd (e78.symm.trans z) (by decide)) (fun z => absurd (e78.symm.trans z) (by decide)) (fun z => absurd (e78.symm.trans z) (by decide)) (fun z => absurd (e78.symm.trans z) (by decide)) (fun z => absurd (e78.symm.trans z) (by decide)) (fun z => absurd (e78.symm.trans z) (by decide)) (fun z => absurd (e78.symm.trans z) (by decide)) (fun z => absurd (e78.symm.trans z) (by decide)) (fun z => absurd (e78.symm.trans z) (by decide)) (fun z => absurd (e78.symm.trans z) (by decide)) (fun z => absurd (e78.symm.trans z) (by decide)) (fun z => absurd (e78.symm.trans z) (by decide)) (fun z => absurd (e78.symm.trans z) (by decide)) (fun z => absurd (e78.symm.trans z) (by decide)) (fun z => absurd (e78.symm.trans z) (by decide)) (fun _ _ _ _ _ _ _ _ _ _ _ _ _ _ _ _ _ _ _ _ _ => ?_)))
  exact b_Mo_statementSort_721 ⟨rfl, rfl⟩
theorem r_21 (hg : ip_gk (lg_tbl, vwCl, Gr)) (h : RIx T j mz) (ho : T.1 78 j = 21)  : RG l Gr n w d T j (T) (j + 1) := by
  have hmz := h.2.1
  have h7 := h.2.2.1
  have hlt := h.2.2.2
  have hj : j < 12000 := by omega
  have hin : vp_in (nI j) 12000 := vp_in_nI hj (by omega)
  have ec : (nI j).toNatClampNeg = j := nI_clamp (by omega)
  have e78 : T.1 78 (nI j).toNatClampNeg = 21 := by rw [ec]; exact ho
  refine rg_S (by (try simp only [mPl, mRf, mF, mMu, mPb, mSy, mT, mComs]); repeat first | exact KMf_rfl | refine KMf_ite ?_ ?_ | refine KMf_zi (by omega) ?_) hg h (by rw [ho]; decide) (e_Mo_statementSort (b_Mo_statementSort_0 hin (fun z => absurd (e78.symm.trans z) (by decide)) (fun z => absurd (e78.symm.trans z) (by decide)) (fun z => absurd (e78.symm.trans z) (by decide)) (fun z => absurd (e78.symm.trans z) (by decide)) (fun z => absurd (e78.symm.trans z) (by decide)) (fun z => absurd (e78.symm.trans z) (by decide)) (fun z => absurd (e78.symm.trans z) (by decide)) (fun z => absurd (e78.symm.trans z) (by decide)) (fun z => absurd (e78.symm.trans z) (by decide)) (fun z => absurd (e78.symm.trans z) (by decide)) (fun z => absurd (e78.symm.trans z) (by decide)) (fun z => absurd (e78.symm.trans z) (by decide)) (fun z => absurd (e78.symm.trans z) (by decide)) (fun z => absurd (e78.symm.trans z) (by decide)) (fun z => absurd (e78.symm.trans z) (by decide)) (fun z => absurd (e78.symm.trans z) (by decide)) (fun z => absurd (e78.symm.trans z) (by decide)) (fun z => absurd (e78.symm.trans z) (by decide)) (fun z => absurd (e78.symm.trans z) (by decide)) (fun z => absurd (e78.symm.trans z) (by decide)) (fun z => absurd (e78.symm.trans z) (by decide)) (fun _ _ _ _ _ _ _ _ _ _ _ _ _ _ _ _ _ _ _ _ _ => ?_)))
  exact b_Mo_statementSort_721 ⟨rfl, rfl⟩
theorem r_22 (hg : ip_gk (lg_tbl, vwCl, Gr)) (h : RIx T j mz) (ho : T.1 78 j = 22) (h34 : T.1 73 34 = nI M) (hM : M ≤ 2500) : RG l Gr n w d T j (mComs T j M) (j + 1) := by
  have hmz := h.2.1
  have h7 := h.2.2.1
  have hlt := h.2.2.2
  have hj : j < 12000 := by omega
  have hin : vp_in (nI j) 12000 := vp_in_nI hj (by omega)
  have ec : (nI j).toNatClampNeg = j := nI_clamp (by omega)
  have e78 : T.1 78 (nI j).toNatClampNeg = 22 := by rw [ec]; exact ho
  refine rg_S (by (try simp only [mPl, mRf, mF, mMu, mPb, mSy, mT, mComs]); repeat first | exact KMf_rfl | refine KMf_ite ?_ ?_ | refine KMf_zi (by omega) ?_) hg h (by rw [ho]; decide) (e_Mo_statementSort (b_Mo_statementSort_0 hin (fun _ => ?_) (fun z => absurd (e78.symm.trans z) (by decide)) (fun z => absurd (e78.symm.trans z) (by decide)) (fun z => absurd (e78.symm.trans z) (by decide)) (fun z => absurd (e78.symm.trans z) (by decide)) (fun z => absurd (e78.symm.trans z) (by decide)) (fun z => absurd (e78.symm.trans z) (by decide)) (fun z => absurd (e78.symm.trans z) (by decide)) (fun z => absurd (e78.symm.trans z) (by decide)) (fun z => absurd (e78.symm.trans z) (by decide)) (fun z => absurd (e78.symm.trans z) (by decide)) (fun z => absurd (e78.symm.trans z) (by decide)) (fun z => absurd (e78.symm.trans z) (by decide)) (fun z => absurd (e78.symm.trans z) (by decide)) (fun z => absurd (e78.symm.trans z) (by decide)) (fun z => absurd (e78.symm.trans z) (by decide)) (fun z => absurd (e78.symm.trans z) (by decide)) (fun z => absurd (e78.symm.trans z) (by decide)) (fun z => absurd (e78.symm.trans z) (by decide)) (fun z => absurd (e78.symm.trans z) (by decide)) (fun z => absurd (e78.symm.trans z) (by decide)) (fun q _ _ _ _ _ _ _ _ _ _ _ _ _ _ _ _ _ _ _ _ => absurd e78 q)))
  refine b_Mo_statementSort_104 hg (wm_comes hg h34 hM hj) (fun A eA => ?_)
  have eC : (if mv T (T.1 79 j) M = -1 then T else mT T 4 (T.1 81 j)) = mComs T j M := by unfold mComs; rw [mT_0 h7]
  rw [eA, eC]
  have y78 : (mComs T j M).1 78 (nI j).toNatClampNeg = 22 := (mComs_c (by omega)).trans e78
  exact b_Mo_statementSort_109 hin (fun _ => b_Mo_statementSort_721 ⟨rfl, rfl⟩) (fun z => absurd (y78.symm.trans z) (by decide))
theorem r_24 (hg : ip_gk (lg_tbl, vwCl, Gr)) (h : RIx T j mz) (ho : T.1 78 j = 24) (h34 : T.1 73 34 = nI M) (hM : M ≤ 2500) : RG l Gr n w d T j (mComs T j M) (j + 1) := by
  have hmz := h.2.1
  have h7 := h.2.2.1
  have hlt := h.2.2.2
  have hj : j < 12000 := by omega
  have hin : vp_in (nI j) 12000 := vp_in_nI hj (by omega)
  have ec : (nI j).toNatClampNeg = j := nI_clamp (by omega)
  have e78 : T.1 78 (nI j).toNatClampNeg = 24 := by rw [ec]; exact ho
  refine rg_S (by (try simp only [mPl, mRf, mF, mMu, mPb, mSy, mT, mComs]); repeat first | exact KMf_rfl | refine KMf_ite ?_ ?_ | refine KMf_zi (by omega) ?_) hg h (by rw [ho]; decide) (e_Mo_statementSort (b_Mo_statementSort_0 hin (fun z => absurd (e78.symm.trans z) (by decide)) (fun z => absurd (e78.symm.trans z) (by decide)) (fun _ => ?_) (fun z => absurd (e78.symm.trans z) (by decide)) (fun z => absurd (e78.symm.trans z) (by decide)) (fun z => absurd (e78.symm.trans z) (by decide)) (fun z => absurd (e78.symm.trans z) (by decide)) (fun z => absurd (e78.symm.trans z) (by decide)) (fun z => absurd (e78.symm.trans z) (by decide)) (fun z => absurd (e78.symm.trans z) (by decide)) (fun z => absurd (e78.symm.trans z) (by decide)) (fun z => absurd (e78.symm.trans z) (by decide)) (fun z => absurd (e78.symm.trans z) (by decide)) (fun z => absurd (e78.symm.trans z) (by decide)) (fun z => absurd (e78.symm.trans z) (by decide)) (fun z => absurd (e78.symm.trans z) (by decide)) (fun z => absurd (e78.symm.trans z) (by decide)) (fun z => absurd (e78.symm.trans z) (by decide)) (fun z => absurd (e78.symm.trans z) (by decide)) (fun z => absurd (e78.symm.trans z) (by decide)) (fun z => absurd (e78.symm.trans z) (by decide)) (fun _ _ q _ _ _ _ _ _ _ _ _ _ _ _ _ _ _ _ _ _ => absurd e78 q)))
  refine b_Mo_statementSort_104 hg (wm_comes hg h34 hM hj) (fun A eA => ?_)
  have eC : (if mv T (T.1 79 j) M = -1 then T else mT T 4 (T.1 81 j)) = mComs T j M := by unfold mComs; rw [mT_0 h7]
  rw [eA, eC]
  have y78 : (mComs T j M).1 78 (nI j).toNatClampNeg = 24 := (mComs_c (by omega)).trans e78
  exact b_Mo_statementSort_109 hin (fun _ => b_Mo_statementSort_721 ⟨rfl, rfl⟩) (fun z => absurd (y78.symm.trans z) (by decide))
theorem r_26 (hg : ip_gk (lg_tbl, vwCl, Gr)) (h : RIx T j mz) (ho : T.1 78 j = 26) (h34 : T.1 73 34 = nI M) (hM : M ≤ 2500) : RG l Gr n w d T j (zi (zi (zi (mComs T j M) 73 61 (T.1 73 60)) 73 62 (nI M)) 73 63 (nI j)) (j + 1) := by
  have hmz := h.2.1
  have h7 := h.2.2.1
  have hlt := h.2.2.2
  have hj : j < 12000 := by omega
  have hin : vp_in (nI j) 12000 := vp_in_nI hj (by omega)
  have ec : (nI j).toNatClampNeg = j := nI_clamp (by omega)
  have e78 : T.1 78 (nI j).toNatClampNeg = 26 := by rw [ec]; exact ho
  refine rg_S (by (try simp only [mPl, mRf, mF, mMu, mPb, mSy, mT, mComs]); repeat first | exact KMf_rfl | refine KMf_ite ?_ ?_ | refine KMf_zi (by omega) ?_) hg h (by rw [ho]; decide) (e_Mo_statementSort (b_Mo_statementSort_0 hin (fun z => absurd (e78.symm.trans z) (by decide)) (fun z => absurd (e78.symm.trans z) (by decide)) (fun z => absurd (e78.symm.trans z) (by decide)) (fun z => absurd (e78.symm.trans z) (by decide)) (fun _ => ?_) (fun z => absurd (e78.symm.trans z) (by decide)) (fun z => absurd (e78.symm.trans z) (by decide)) (fun z => absurd (e78.symm.trans z) (by decide)) (fun z => absurd (e78.symm.trans z) (by decide)) (fun z => absurd (e78.symm.trans z) (by decide)) (fun z => absurd (e78.symm.trans z) (by decide)) (fun z => absurd (e78.symm.trans z) (by decide)) (fun z => absurd (e78.symm.trans z) (by decide)) (fun z => absurd (e78.symm.trans z) (by decide)) (fun z => absurd (e78.symm.trans z) (by decide)) (fun z => absurd (e78.symm.trans z) (by decide)) (fun z => absurd (e78.symm.trans z) (by decide)) (fun z => absurd (e78.symm.trans z) (by decide)) (fun z => absurd (e78.symm.trans z) (by decide)) (fun z => absurd (e78.symm.trans z) (by decide)) (fun z => absurd (e78.symm.trans z) (by decide)) (fun _ _ _ _ q _ _ _ _ _ _ _ _ _ _ _ _ _ _ _ _ => absurd e78 q)))
  refine b_Mo_statementSort_104 hg (wm_comes hg h34 hM hj) (fun A eA => ?_)
  have eC : (if mv T (T.1 79 j) M = -1 then T else mT T 4 (T.1 81 j)) = mComs T j M := by unfold mComs; rw [mT_0 h7]
  rw [eA, eC]
  have y78 : (mComs T j M).1 78 (nI j).toNatClampNeg = 26 := (mComs_c (by omega)).trans e78
  refine b_Mo_statementSort_109 hin (fun z => absurd y78 z) (fun _ => b_Mo_statementSort_120 (b_Mo_statementSort_721 ⟨rfl, ?_⟩))
  rw [mComs_c (k := 60) (by omega), mComs_c (k := 34) (by omega), h34]
theorem r_38 (hg : ip_gk (lg_tbl, vwCl, Gr)) (h : RIx T j mz) (ho : T.1 78 j = 38) (h34 : T.1 73 34 = nI M) (hM : M ≤ 2500) : RG l Gr n w d T j (mComs T j M) (j + 1) := by
  have hmz := h.2.1
  have h7 := h.2.2.1
  have hlt := h.2.2.2
  have hj : j < 12000 := by omega
  have hin : vp_in (nI j) 12000 := vp_in_nI hj (by omega)
  have ec : (nI j).toNatClampNeg = j := nI_clamp (by omega)
  have e78 : T.1 78 (nI j).toNatClampNeg = 38 := by rw [ec]; exact ho
  refine rg_S (by (try simp only [mPl, mRf, mF, mMu, mPb, mSy, mT, mComs]); repeat first | exact KMf_rfl | refine KMf_ite ?_ ?_ | refine KMf_zi (by omega) ?_) hg h (by rw [ho]; decide) (e_Mo_statementSort (b_Mo_statementSort_0 hin (fun z => absurd (e78.symm.trans z) (by decide)) (fun z => absurd (e78.symm.trans z) (by decide)) (fun z => absurd (e78.symm.trans z) (by decide)) (fun z => absurd (e78.symm.trans z) (by decide)) (fun z => absurd (e78.symm.trans z) (by decide)) (fun z => absurd (e78.symm.trans z) (by decide)) (fun z => absurd (e78.symm.trans z) (by decide)) (fun z => absurd (e78.symm.trans z) (by decide)) (fun z => absurd (e78.symm.trans z) (by decide)) (fun z => absurd (e78.symm.trans z) (by decide)) (fun z => absurd (e78.symm.trans z) (by decide)) (fun z => absurd (e78.symm.trans z) (by decide)) (fun z => absurd (e78.symm.trans z) (by decide)) (fun z => absurd (e78.symm.trans z) (by decide)) (fun z => absurd (e78.symm.trans z) (by decide)) (fun z => absurd (e78.symm.trans z) (by decide)) (fun _ => ?_) (fun z => absurd (e78.symm.trans z) (by decide)) (fun z => absurd (e78.symm.trans z) (by decide)) (fun z => absurd (e78.symm.trans z) (by decide)) (fun z => absurd (e78.symm.trans z) (by decide)) (fun _ _ _ _ _ _ _ _ _ _ _ _ _ _ _ _ q _ _ _ _ => absurd e78 q)))
  refine b_Mo_statementSort_624 hg (wm_comes hg h34 hM hj) (fun A eA => ?_)
  have eC : (if mv T (T.1 79 j) M = -1 then T else mT T 4 (T.1 81 j)) = mComs T j M := by unfold mComs; rw [mT_0 h7]
  rw [eA, eC]
  exact b_Mo_statementSort_629 (b_Mo_statementSort_721 ⟨rfl, rfl⟩)
theorem r_30 (hg : ip_gk (lg_tbl, vwCl, Gr)) (h : RIx T j mz) (ho : T.1 78 j = 30) (h43 : T.1 73 43 = nI (m + 1)) (hm : m < 4200) : RG l Gr n w d T j (zi (zi T 80 j (T.1 98 m)) 73 43 (nI m)) (j + 1) := by
  have hmz := h.2.1
  have h7 := h.2.2.1
  have hlt := h.2.2.2
  have hj : j < 12000 := by omega
  have hin : vp_in (nI j) 12000 := vp_in_nI hj (by omega)
  have ec : (nI j).toNatClampNeg = j := nI_clamp (by omega)
  have e78 : T.1 78 (nI j).toNatClampNeg = 30 := by rw [ec]; exact ho
  refine rg_S (by (try simp only [mPl, mRf, mF, mMu, mPb, mSy, mT, mComs]); repeat first | exact KMf_rfl | refine KMf_ite ?_ ?_ | refine KMf_zi (by omega) ?_) hg h (by rw [ho]; decide) (e_Mo_statementSort (b_Mo_statementSort_0 hin (fun z => absurd (e78.symm.trans z) (by decide)) (fun z => absurd (e78.symm.trans z) (by decide)) (fun z => absurd (e78.symm.trans z) (by decide)) (fun z => absurd (e78.symm.trans z) (by decide)) (fun z => absurd (e78.symm.trans z) (by decide)) (fun z => absurd (e78.symm.trans z) (by decide)) (fun z => absurd (e78.symm.trans z) (by decide)) (fun z => absurd (e78.symm.trans z) (by decide)) (fun _ => ?_) (fun z => absurd (e78.symm.trans z) (by decide)) (fun z => absurd (e78.symm.trans z) (by decide)) (fun z => absurd (e78.symm.trans z) (by decide)) (fun z => absurd (e78.symm.trans z) (by decide)) (fun z => absurd (e78.symm.trans z) (by decide)) (fun z => absurd (e78.symm.trans z) (by decide)) (fun z => absurd (e78.symm.trans z) (by decide)) (fun z => absurd (e78.symm.trans z) (by decide)) (fun z => absurd (e78.symm.trans z) (by decide)) (fun z => absurd (e78.symm.trans z) (by decide)) (fun z => absurd (e78.symm.trans z) (by decide)) (fun z => absurd (e78.symm.trans z) (by decide)) (fun _ _ _ _ _ _ _ _ q _ _ _ _ _ _ _ _ _ _ _ _ => absurd e78 q)))
  have e1 : T.1 73 43 - 1 = nI m := by rw [h43]; exact nI_pred m
  exact b_Mo_statementSort_424 (by rw [e1]; exact vp_in_nI hm (by omega)) hin (b_Mo_statementSort_721 ⟨rfl, by rw [e1, ec, nI_clamp (by omega)]⟩)
theorem r_35 (hg : ip_gk (lg_tbl, vwCl, Gr)) (h : RIx T j mz) (ho : T.1 78 j = 35) (h43 : T.1 73 43 = nI (m + 1)) (hm : m < 4200) (h49 : T.1 73 49 = nI c) (hc : c < 70) : RG l Gr n w d T j (zi (zi (zi (mMu T m 1) 73 43 (nI m)) 101 c (T.1 73 34)) 73 49 (nI (c + 1))) (j + 1) := by
  have hmz := h.2.1
  have h7 := h.2.2.1
  have hlt := h.2.2.2
  have hj : j < 12000 := by omega
  have hin : vp_in (nI j) 12000 := vp_in_nI hj (by omega)
  have ec : (nI j).toNatClampNeg = j := nI_clamp (by omega)
  have e78 : T.1 78 (nI j).toNatClampNeg = 35 := by rw [ec]; exact ho
  refine rg_S (by (try simp only [mPl, mRf, mF, mMu, mPb, mSy, mT, mComs]); repeat first | exact KMf_rfl | refine KMf_ite ?_ ?_ | refine KMf_zi (by omega) ?_) hg h (by rw [ho]; decide) (e_Mo_statementSort (b_Mo_statementSort_0 hin (fun z => absurd (e78.symm.trans z) (by decide)) (fun z => absurd (e78.symm.trans z) (by decide)) (fun z => absurd (e78.symm.trans z) (by decide)) (fun z => absurd (e78.symm.trans z) (by decide)) (fun z => absurd (e78.symm.trans z) (by decide)) (fun z => absurd (e78.symm.trans z) (by decide)) (fun z => absurd (e78.symm.trans z) (by decide)) (fun z => absurd (e78.symm.trans z) (by decide)) (fun z => absurd (e78.symm.trans z) (by decide)) (fun z => absurd (e78.symm.trans z) (by decide)) (fun z => absurd (e78.symm.trans z) (by decide)) (fun z => absurd (e78.symm.trans z) (by decide)) (fun z => absurd (e78.symm.trans z) (by decide)) (fun _ => ?_) (fun z => absurd (e78.symm.trans z) (by decide)) (fun z => absurd (e78.symm.trans z) (by decide)) (fun z => absurd (e78.symm.trans z) (by decide)) (fun z => absurd (e78.symm.trans z) (by decide)) (fun z => absurd (e78.symm.trans z) (by decide)) (fun z => absurd (e78.symm.trans z) (by decide)) (fun z => absurd (e78.symm.trans z) (by decide)) (fun _ _ _ _ _ _ _ _ _ _ _ _ _ q _ _ _ _ _ _ _ => absurd e78 q)))
  refine b_Mo_statementSort_565 hg (wm_must hg h43 hm) (fun A eA => ?_)
  rw [eA]
  have y49 : (mMu T m 1).1 73 49 = nI c := (mMu_c (by omega)).trans h49
  have e1 : (mMu T m 1).1 73 43 - 1 = nI m := by rw [mMu_c (by omega), h43]; exact nI_pred m
  refine b_Mo_statementSort_570 (by rw [y49]; exact vp_in_nI hc (by omega)) (b_Mo_statementSort_721 ⟨rfl, ?_⟩)
  rw [y49, e1, nI_clamp (by omega), nI_1, mMu_c (k := 34) (by omega)]
theorem r_36 (hg : ip_gk (lg_tbl, vwCl, Gr)) (h : RIx T j mz) (ho : T.1 78 j = 36) (h49 : T.1 73 49 = nI (c + 1)) (hc : c < 70) : RG l Gr n w d T j (zi T 73 34 (T.1 101 c)) (j + 1) := by
  have hmz := h.2.1
  have h7 := h.2.2.1
  have hlt := h.2.2.2
  have hj : j < 12000 := by omega
  have hin : vp_in (nI j) 12000 := vp_in_nI hj (by omega)
  have ec : (nI j).toNatClampNeg = j := nI_clamp (by omega)
  have e78 : T.1 78 (nI j).toNatClampNeg = 36 := by rw [ec]; exact ho
  refine rg_S (by (try simp only [mPl, mRf, mF, mMu, mPb, mSy, mT, mComs]); repeat first | exact KMf_rfl | refine KMf_ite ?_ ?_ | refine KMf_zi (by omega) ?_) hg h (by rw [ho]; decide) (e_Mo_statementSort (b_Mo_statementSort_0 hin (fun z => absurd (e78.symm.trans z) (by decide)) (fun z => absurd (e78.symm.trans z) (by decide)) (fun z => absurd (e78.symm.trans z) (by decide)) (fun z => absurd (e78.symm.trans z) (by decide)) (fun z => absurd (e78.symm.trans z) (by decide)) (fun z => absurd (e78.symm.trans z) (by decide)) (fun z => absurd (e78.symm.trans z) (by decide)) (fun z => absurd (e78.symm.trans z) (by decide)) (fun z => absurd (e78.symm.trans z) (by decide)) (fun z => absurd (e78.symm.trans z) (by decide)) (fun z => absurd (e78.symm.trans z) (by decide)) (fun z => absurd (e78.symm.trans z) (by decide)) (fun z => absurd (e78.symm.trans z) (by decide)) (fun z => absurd (e78.symm.trans z) (by decide)) (fun _ => ?_) (fun z => absurd (e78.symm.trans z) (by decide)) (fun z => absurd (e78.symm.trans z) (by decide)) (fun z => absurd (e78.symm.trans z) (by decide)) (fun z => absurd (e78.symm.trans z) (by decide)) (fun z => absurd (e78.symm.trans z) (by decide)) (fun z => absurd (e78.symm.trans z) (by decide)) (fun _ _ _ _ _ _ _ _ _ _ _ _ _ _ q _ _ _ _ _ _ => absurd e78 q)))
  have e1 : T.1 73 49 - 1 = nI c := by rw [h49]; exact nI_pred c
  exact b_Mo_statementSort_606 (by rw [e1]; exact vp_in_nI hc (by omega)) (b_Mo_statementSort_721 ⟨rfl, by rw [e1, nI_clamp (by omega)]⟩)
theorem r_37 (hg : ip_gk (lg_tbl, vwCl, Gr)) (h : RIx T j mz) (ho : T.1 78 j = 37) (h49 : T.1 73 49 = nI (c + 1)) (hc : c < 70) : RG l Gr n w d T j (zi (zi T 73 49 (nI c)) 73 34 (T.1 101 c)) (j + 1) := by
  have hmz := h.2.1
  have h7 := h.2.2.1
  have hlt := h.2.2.2
  have hj : j < 12000 := by omega
  have hin : vp_in (nI j) 12000 := vp_in_nI hj (by omega)
  have ec : (nI j).toNatClampNeg = j := nI_clamp (by omega)
  have e78 : T.1 78 (nI j).toNatClampNeg = 37 := by rw [ec]; exact ho
  refine rg_S (by (try simp only [mPl, mRf, mF, mMu, mPb, mSy, mT, mComs]); repeat first | exact KMf_rfl | refine KMf_ite ?_ ?_ | refine KMf_zi (by omega) ?_) hg h (by rw [ho]; decide) (e_Mo_statementSort (b_Mo_statementSort_0 hin (fun z => absurd (e78.symm.trans z) (by decide)) (fun z => absurd (e78.symm.trans z) (by decide)) (fun z => absurd (e78.symm.trans z) (by decide)) (fun z => absurd (e78.symm.trans z) (by decide)) (fun z => absurd (e78.symm.trans z) (by decide)) (fun z => absurd (e78.symm.trans z) (by decide)) (fun z => absurd (e78.symm.trans z) (by decide)) (fun z => absurd (e78.symm.trans z) (by decide)) (fun z => absurd (e78.symm.trans z) (by decide)) (fun z => absurd (e78.symm.trans z) (by decide)) (fun z => absurd (e78.symm.trans z) (by decide)) (fun z => absurd (e78.symm.trans z) (by decide)) (fun z => absurd (e78.symm.trans z) (by decide)) (fun z => absurd (e78.symm.trans z) (by decide)) (fun z => absurd (e78.symm.trans z) (by decide)) (fun _ => ?_) (fun z => absurd (e78.symm.trans z) (by decide)) (fun z => absurd (e78.symm.trans z) (by decide)) (fun z => absurd (e78.symm.trans z) (by decide)) (fun z => absurd (e78.symm.trans z) (by decide)) (fun z => absurd (e78.symm.trans z) (by decide)) (fun _ _ _ _ _ _ _ _ _ _ _ _ _ _ _ q _ _ _ _ _ => absurd e78 q)))
  have e1 : T.1 73 49 - 1 = nI c := by rw [h49]; exact nI_pred c
  exact b_Mo_statementSort_695 (by rw [e1]; exact vp_in_nI hc (by omega)) (b_Mo_statementSort_721 ⟨rfl, by rw [e1, nI_clamp (by omega)]⟩)
theorem r_40 (hg : ip_gk (lg_tbl, vwCl, Gr)) (h : RIx T j mz) (ho : T.1 78 j = 40) (h49 : T.1 73 49 = nI (c + 1)) (hc : c < 70) : RG l Gr n w d T j (zi (zi T 73 49 (nI c)) 73 34 (T.1 101 c)) (j + 1) := by
  have hmz := h.2.1
  have h7 := h.2.2.1
  have hlt := h.2.2.2
  have hj : j < 12000 := by omega
  have hin : vp_in (nI j) 12000 := vp_in_nI hj (by omega)
  have ec : (nI j).toNatClampNeg = j := nI_clamp (by omega)
  have e78 : T.1 78 (nI j).toNatClampNeg = 40 := by rw [ec]; exact ho
  refine rg_S (by (try simp only [mPl, mRf, mF, mMu, mPb, mSy, mT, mComs]); repeat first | exact KMf_rfl | refine KMf_ite ?_ ?_ | refine KMf_zi (by omega) ?_) hg h (by rw [ho]; decide) (e_Mo_statementSort (b_Mo_statementSort_0 hin (fun z => absurd (e78.symm.trans z) (by decide)) (fun z => absurd (e78.symm.trans z) (by decide)) (fun z => absurd (e78.symm.trans z) (by decide)) (fun z => absurd (e78.symm.trans z) (by decide)) (fun z => absurd (e78.symm.trans z) (by decide)) (fun z => absurd (e78.symm.trans z) (by decide)) (fun z => absurd (e78.symm.trans z) (by decide)) (fun z => absurd (e78.symm.trans z) (by decide)) (fun z => absurd (e78.symm.trans z) (by decide)) (fun z => absurd (e78.symm.trans z) (by decide)) (fun z => absurd (e78.symm.trans z) (by decide)) (fun z => absurd (e78.symm.trans z) (by decide)) (fun z => absurd (e78.symm.trans z) (by decide)) (fun z => absurd (e78.symm.trans z) (by decide)) (fun z => absurd (e78.symm.trans z) (by decide)) (fun z => absurd (e78.symm.trans z) (by decide)) (fun z => absurd (e78.symm.trans z) (by decide)) (fun z => absurd (e78.symm.trans z) (by decide)) (fun _ => ?_) (fun z => absurd (e78.symm.trans z) (by decide)) (fun z => absurd (e78.symm.trans z) (by decide)) (fun _ _ _ _ _ _ _ _ _ _ _ _ _ _ _ _ _ _ q _ _ => absurd e78 q)))
  have e1 : T.1 73 49 - 1 = nI c := by rw [h49]; exact nI_pred c
  exact b_Mo_statementSort_695 (by rw [e1]; exact vp_in_nI hc (by omega)) (b_Mo_statementSort_721 ⟨rfl, by rw [e1, nI_clamp (by omega)]⟩)
theorem r_39 (hg : ip_gk (lg_tbl, vwCl, Gr)) (h : RIx T j mz) (ho : T.1 78 j = 39) (h34 : T.1 73 34 = nI M) (hM : M < 2500) (h43 : T.1 73 43 = nI (m + 2)) (hm : m + 2 ≤ 4200) (h49 : T.1 73 49 = nI c) (hc : c < 70) : RG l Gr n w d T j (mSy (zi (zi (zi T 73 43 (nI m)) 101 c (nI M)) 73 49 (nI (c + 1))) M (T.1 79 j) 3 0 0 (nI j)) (j + 1) := by
  have hmz := h.2.1
  have h7 := h.2.2.1
  have hlt := h.2.2.2
  have hj : j < 12000 := by omega
  have hin : vp_in (nI j) 12000 := vp_in_nI hj (by omega)
  have ec : (nI j).toNatClampNeg = j := nI_clamp (by omega)
  have e78 : T.1 78 (nI j).toNatClampNeg = 39 := by rw [ec]; exact ho
  refine rg_S (by (try simp only [mPl, mRf, mF, mMu, mPb, mSy, mT, mComs]); repeat first | exact KMf_rfl | refine KMf_ite ?_ ?_ | refine KMf_zi (by omega) ?_) hg h (by rw [ho]; decide) (e_Mo_statementSort (b_Mo_statementSort_0 hin (fun z => absurd (e78.symm.trans z) (by decide)) (fun z => absurd (e78.symm.trans z) (by decide)) (fun z => absurd (e78.symm.trans z) (by decide)) (fun z => absurd (e78.symm.trans z) (by decide)) (fun z => absurd (e78.symm.trans z) (by decide)) (fun z => absurd (e78.symm.trans z) (by decide)) (fun z => absurd (e78.symm.trans z) (by decide)) (fun z => absurd (e78.symm.trans z) (by decide)) (fun z => absurd (e78.symm.trans z) (by decide)) (fun z => absurd (e78.symm.trans z) (by decide)) (fun z => absurd (e78.symm.trans z) (by decide)) (fun z => absurd (e78.symm.trans z) (by decide)) (fun z => absurd (e78.symm.trans z) (by decide)) (fun z => absurd (e78.symm.trans z) (by decide)) (fun z => absurd (e78.symm.trans z) (by decide)) (fun z => absurd (e78.symm.trans z) (by decide)) (fun z => absurd (e78.symm.trans z) (by decide)) (fun _ => ?_) (fun z => absurd (e78.symm.trans z) (by decide)) (fun z => absurd (e78.symm.trans z) (by decide)) (fun z => absurd (e78.symm.trans z) (by decide)) (fun _ _ _ _ _ _ _ _ _ _ _ _ _ _ _ _ _ q _ _ _ => absurd e78 q)))
  have e2 : T.1 73 43 - 2 = nI m := by rw [h43]; show nI (m + 2) - nI 2 = _; rw [pk_sub (by omega)]; rfl
  refine b_Mo_statementSort_644 (R := fun x T' => x = nI M ∧ T' = mSy (zi (zi (zi T 73 43 (nI m)) 101 c (nI M)) 73 49 (nI (c + 1))) M (T.1 79 j) 3 0 0 (nI j)) hg (by rw [h49]; exact vp_in_nI hc (by omega)) hin ?_ (fun x A hA => b_Mo_statementSort_691 (b_Mo_statementSort_721 ⟨rfl, hA.2⟩))
  rw [h49, e2, ec, nI_clamp (n := c) (by omega), nI_1, h34]
  exact wm_sym (by rw [zi_k (by decide), zi_c (by decide), zi_k (by decide)]; exact h34) hM
theorem r_41 (hg : ip_gk (lg_tbl, vwCl, Gr)) (h : RIx T j mz) (ho : T.1 78 j = 41) (h43 : T.1 73 43 = nI (m + 1)) (hm : m < 4200) : RG l Gr n w d T j (mPb (mMu T m 0) m) (j + 1) := by
  have hmz := h.2.1
  have h7 := h.2.2.1
  have hlt := h.2.2.2
  have hj : j < 12000 := by omega
  have hin : vp_in (nI j) 12000 := vp_in_nI hj (by omega)
  have ec : (nI j).toNatClampNeg = j := nI_clamp (by omega)
  have e78 : T.1 78 (nI j).toNatClampNeg = 41 := by rw [ec]; exact ho
  refine rg_S (by (try simp only [mPl, mRf, mF, mMu, mPb, mSy, mT, mComs]); repeat first | exact KMf_rfl | refine KMf_ite ?_ ?_ | refine KMf_zi (by omega) ?_) hg h (by rw [ho]; decide) (e_Mo_statementSort (b_Mo_statementSort_0 hin (fun z => absurd (e78.symm.trans z) (by decide)) (fun z => absurd (e78.symm.trans z) (by decide)) (fun z => absurd (e78.symm.trans z) (by decide)) (fun z => absurd (e78.symm.trans z) (by decide)) (fun z => absurd (e78.symm.trans z) (by decide)) (fun z => absurd (e78.symm.trans z) (by decide)) (fun z => absurd (e78.symm.trans z) (by decide)) (fun z => absurd (e78.symm.trans z) (by decide)) (fun z => absurd (e78.symm.trans z) (by decide)) (fun z => absurd (e78.symm.trans z) (by decide)) (fun z => absurd (e78.symm.trans z) (by decide)) (fun z => absurd (e78.symm.trans z) (by decide)) (fun z => absurd (e78.symm.trans z) (by decide)) (fun z => absurd (e78.symm.trans z) (by decide)) (fun z => absurd (e78.symm.trans z) (by decide)) (fun z => absurd (e78.symm.trans z) (by decide)) (fun z => absurd (e78.symm.trans z) (by decide)) (fun z => absurd (e78.symm.trans z) (by decide)) (fun z => absurd (e78.symm.trans z) (by decide)) (fun _ => ?_) (fun z => absurd (e78.symm.trans z) (by decide)) (fun _ _ _ _ _ _ _ _ _ _ _ _ _ _ _ _ _ _ _ q _ => absurd e78 q)))
  refine b_Mo_statementSort_632 hg (wm_must hg h43 hm) (fun A eA => ?_)
  rw [eA]
  exact b_Mo_statementSort_637 hg (wm_mpub hg ((mMu_c (by omega)).trans h43) hm) (fun A eA => b_Mo_statementSort_641 (b_Mo_statementSort_721 ⟨rfl, eA⟩))
theorem r_42 (hg : ip_gk (lg_tbl, vwCl, Gr)) (h : RIx T j mz) (ho : T.1 78 j = 42) (h34 : T.1 73 34 = nI M) (hM : M ≤ 2500) (hv : mv T (T.1 79 j) M = nI s) (hs : s < 2500) (h43 : T.1 73 43 = nI (m + 1)) (hm : m < 4200) : RG l Gr n w d T j (zi (zi (mRf (mMu T m 0) j s) 106 j (T.1 99 m)) 107 j (T.1 100 m &&& 1)) (j + 1) := by
  have hmz := h.2.1
  have h7 := h.2.2.1
  have hlt := h.2.2.2
  have hj : j < 12000 := by omega
  have hin : vp_in (nI j) 12000 := vp_in_nI hj (by omega)
  have ec : (nI j).toNatClampNeg = j := nI_clamp (by omega)
  have e78 : T.1 78 (nI j).toNatClampNeg = 42 := by rw [ec]; exact ho
  refine rg_S (by (try simp only [mPl, mRf, mF, mMu, mPb, mSy, mT, mComs]); repeat first | exact KMf_rfl | refine KMf_ite ?_ ?_ | refine KMf_zi (by omega) ?_) hg h (by rw [ho]; decide) (e_Mo_statementSort (b_Mo_statementSort_0 hin (fun z => absurd (e78.symm.trans z) (by decide)) (fun z => absurd (e78.symm.trans z) (by decide)) (fun z => absurd (e78.symm.trans z) (by decide)) (fun z => absurd (e78.symm.trans z) (by decide)) (fun z => absurd (e78.symm.trans z) (by decide)) (fun z => absurd (e78.symm.trans z) (by decide)) (fun z => absurd (e78.symm.trans z) (by decide)) (fun z => absurd (e78.symm.trans z) (by decide)) (fun z => absurd (e78.symm.trans z) (by decide)) (fun z => absurd (e78.symm.trans z) (by decide)) (fun z => absurd (e78.symm.trans z) (by decide)) (fun z => absurd (e78.symm.trans z) (by decide)) (fun z => absurd (e78.symm.trans z) (by decide)) (fun z => absurd (e78.symm.trans z) (by decide)) (fun z => absurd (e78.symm.trans z) (by decide)) (fun z => absurd (e78.symm.trans z) (by decide)) (fun z => absurd (e78.symm.trans z) (by decide)) (fun z => absurd (e78.symm.trans z) (by decide)) (fun z => absurd (e78.symm.trans z) (by decide)) (fun z => absurd (e78.symm.trans z) (by decide)) (fun _ => ?_) (fun _ _ _ _ _ _ _ _ _ _ _ _ _ _ _ _ _ _ _ _ q => absurd e78 q)))
  refine b_Mo_statementSort_508 hg (wm_must hg h43 hm) (fun A eA => ?_)
  rw [eA]
  have vm : ∀ u, mv (mMu T m 0) (T.1 79 j) u = mv T (T.1 79 j) u := fun u => by
    induction u with
    | zero => rfl
    | succ u ih =>
      show (if _ then _ else _) = (if _ then _ else _)
      rw [ih, mMu_c (by omega), mMu_c (by omega), mMu_c (by omega), mMu_c (by omega)]
  refine b_Mo_statementSort_513 hg hin (wm_vis (m := M) ((mMu_c (by omega)).trans h34) hM) (fun x A hA => ?_)
  rw [hA.1, hA.2, ec, mMu_c (c := 79) (by omega), vm, hv]
  refine b_Mo_statementSort_525 hg (wm_ref hs hj) (fun A eA => ?_)
  rw [eA]
  have e1 : (mRf (mMu T m 0) j s).1 73 43 - 1 = nI m := by rw [mRf_c (by omega), mMu_c (by omega), h43]; exact nI_pred m
  refine b_Mo_statementSort_528 (by rw [e1]; exact vp_in_nI hm (by omega)) hin (b_Mo_statementSort_721 ⟨rfl, ?_⟩)
  rw [e1, ec, nI_clamp (by omega), mRf_c (c := 99) (by omega), mMu_c (c := 99) (by omega), mRf_c (c := 100) (by omega), mMu_c (c := 100) (by omega)]
theorem r_32 (hg : ip_gk (lg_tbl, vwCl, Gr)) (h : RIx T j mz) (ho : T.1 78 j = 32) (h34 : T.1 73 34 = nI M) (hM : M ≤ 2500) (hv : mv T (T.1 79 j) M = nI s) (hs : s < 2500) (h43 : T.1 73 43 = nI (m + 1)) (hm : m < 4200) : RG l Gr n w d T j (zi (mMu (mRf T j s) m (T.1 92 s)) 73 43 (nI m)) (j + 1) := by
  have hmz := h.2.1
  have h7 := h.2.2.1
  have hlt := h.2.2.2
  have hj : j < 12000 := by omega
  have hin : vp_in (nI j) 12000 := vp_in_nI hj (by omega)
  have ec : (nI j).toNatClampNeg = j := nI_clamp (by omega)
  have e78 : T.1 78 (nI j).toNatClampNeg = 32 := by rw [ec]; exact ho
  refine rg_S (by (try simp only [mPl, mRf, mF, mMu, mPb, mSy, mT, mComs]); repeat first | exact KMf_rfl | refine KMf_ite ?_ ?_ | refine KMf_zi (by omega) ?_) hg h (by rw [ho]; decide) (e_Mo_statementSort (b_Mo_statementSort_0 hin (fun z => absurd (e78.symm.trans z) (by decide)) (fun z => absurd (e78.symm.trans z) (by decide)) (fun z => absurd (e78.symm.trans z) (by decide)) (fun z => absurd (e78.symm.trans z) (by decide)) (fun z => absurd (e78.symm.trans z) (by decide)) (fun z => absurd (e78.symm.trans z) (by decide)) (fun z => absurd (e78.symm.trans z) (by decide)) (fun z => absurd (e78.symm.trans z) (by decide)) (fun z => absurd (e78.symm.trans z) (by decide)) (fun z => absurd (e78.symm.trans z) (by decide)) (fun _ => ?_) (fun z => absurd (e78.symm.trans z) (by decide)) (fun z => absurd (e78.symm.trans z) (by decide)) (fun z => absurd (e78.symm.trans z) (by decide)) (fun z => absurd (e78.symm.trans z) (by decide)) (fun z => absurd (e78.symm.trans z) (by decide)) (fun z => absurd (e78.symm.trans z) (by decide)) (fun z => absurd (e78.symm.trans z) (by decide)) (fun z => absurd (e78.symm.trans z) (by decide)) (fun z => absurd (e78.symm.trans z) (by decide)) (fun z => absurd (e78.symm.trans z) (by decide)) (fun _ _ _ _ _ _ _ _ _ _ q _ _ _ _ _ _ _ _ _ _ => absurd e78 q)))
  refine b_Mo_statementSort_462 hg hin (wm_vis (m := M) h34 hM) (fun x A hA => ?_)
  rw [hA.1, hA.2, ec, hv]
  refine b_Mo_statementSort_474 hg (wm_ref hs hj) (fun A eA => ?_)
  rw [eA]
  have y105 : (mRf T j s).1 105 j = T.1 92 s := by
    unfold mRf
    exact zi_v
  refine b_Mo_statementSort_477 (R := fun T' => T' = mMu (mRf T j s) m (T.1 92 s)) hg hin (by rw [ec, y105]; exact wm_must hg ((mRf_c (by omega)).trans h43) hm) (fun A eA => ?_)
  rw [eA]
  refine b_Mo_statementSort_487 (b_Mo_statementSort_721 ⟨rfl, ?_⟩)
  rw [mMu_c (k := 43) (by omega), mRf_c (k := 43) (by omega), h43, nI_pred]
theorem r_34 (hg : ip_gk (lg_tbl, vwCl, Gr)) (h : RIx T j mz) (ho : T.1 78 j = 34) (h34 : T.1 73 34 = nI M) (hM : M ≤ 2500) (hv : mv T (T.1 79 j) M = nI s) (hs : s < 2500) (h43 : T.1 73 43 = nI (m + 2)) (hm : m + 1 < 4200) : RG l Gr n w d T j (zi (mRf (zi (mMu T (m + 1) (T.1 92 s)) 73 43 (nI m)) j s) 107 j (T.1 100 m &&& 1)) (j + 1) := by
  have hmz := h.2.1
  have h7 := h.2.2.1
  have hlt := h.2.2.2
  have hj : j < 12000 := by omega
  have hin : vp_in (nI j) 12000 := vp_in_nI hj (by omega)
  have ec : (nI j).toNatClampNeg = j := nI_clamp (by omega)
  have e78 : T.1 78 (nI j).toNatClampNeg = 34 := by rw [ec]; exact ho
  refine rg_S (by (try simp only [mPl, mRf, mF, mMu, mPb, mSy, mT, mComs]); repeat first | exact KMf_rfl | refine KMf_ite ?_ ?_ | refine KMf_zi (by omega) ?_) hg h (by rw [ho]; decide) (e_Mo_statementSort (b_Mo_statementSort_0 hin (fun z => absurd (e78.symm.trans z) (by decide)) (fun z => absurd (e78.symm.trans z) (by decide)) (fun z => absurd (e78.symm.trans z) (by decide)) (fun z => absurd (e78.symm.trans z) (by decide)) (fun z => absurd (e78.symm.trans z) (by decide)) (fun z => absurd (e78.symm.trans z) (by decide)) (fun z => absurd (e78.symm.trans z) (by decide)) (fun z => absurd (e78.symm.trans z) (by decide)) (fun z => absurd (e78.symm.trans z) (by decide)) (fun z => absurd (e78.symm.trans z) (by decide)) (fun z => absurd (e78.symm.trans z) (by decide)) (fun z => absurd (e78.symm.trans z) (by decide)) (fun _ => ?_) (fun z => absurd (e78.symm.trans z) (by decide)) (fun z => absurd (e78.symm.trans z) (by decide)) (fun z => absurd (e78.symm.trans z) (by decide)) (fun z => absurd (e78.symm.trans z) (by decide)) (fun z => absurd (e78.symm.trans z) (by decide)) (fun z => absurd (e78.symm.trans z) (by decide)) (fun z => absurd (e78.symm.trans z) (by decide)) (fun z => absurd (e78.symm.trans z) (by decide)) (fun _ _ _ _ _ _ _ _ _ _ _ _ q _ _ _ _ _ _ _ _ => absurd e78 q)))
  refine b_Mo_statementSort_500 (R := fun T' => T' = zi (mRf (zi (mMu T (m + 1) (T.1 92 s)) 73 43 (nI m)) j s) 107 j (T.1 100 m &&& 1)) hg (e_Mo_elementSort (b_Mo_elementSort_0 hg hin (wm_vis (m := M) h34 hM) (fun x A hA => ?_))) (fun A eA => b_Mo_statementSort_505 (b_Mo_statementSort_721 ⟨rfl, eA⟩))
  rw [hA.1, hA.2, ec, hv]
  refine b_Mo_elementSort_10 (R := fun T' => T' = mMu T (m + 1) (T.1 92 s)) hg (vp_in_nI hs (by omega)) (by rw [nI_clamp (n := s) (by omega)]; exact wm_must hg h43 hm) (fun A eA => ?_)
  rw [eA]
  have e2 : (mMu T (m + 1) (T.1 92 s)).1 73 43 - 2 = nI m := by rw [mMu_c (by omega), h43]; show nI (m + 2) - nI 2 = _; rw [pk_sub (by omega)]; rfl
  refine b_Mo_elementSort_21 (R := fun T' => T' = mRf (zi (mMu T (m + 1) (T.1 92 s)) 73 43 (nI m)) j s) hg (by rw [e2]; exact wm_ref hs hj) (fun A eA => ?_)
  rw [eA]
  have y43 : (mRf (zi (mMu T (m + 1) (T.1 92 s)) 73 43 (nI m)) j s).1 73 43 = nI m := (mRf_c (by omega)).trans zi_v
  refine b_Mo_elementSort_37 (by rw [y43]; exact vp_in_nI (by omega) (by omega)) hin ⟨rfl, ?_⟩
  rw [y43, ec, nI_clamp (by omega), mRf_c (c := 100) (by omega), zi_c (by decide), mMu_c (c := 100) (by omega)]
theorem r_31n (hg : ip_gk (lg_tbl, vwCl, Gr)) (h : RIx T j mz) (ho : T.1 78 j = 31) (h34 : T.1 73 34 = nI M) (hM : M ≤ 2500) (hv : mv T (T.1 79 j) M = -1) : RG l Gr n w d T j (mF T 4 (T.1 81 j)) (j + 1) := by
  have hmz := h.2.1
  have h7 := h.2.2.1
  have hlt := h.2.2.2
  have hj : j < 12000 := by omega
  have hin : vp_in (nI j) 12000 := vp_in_nI hj (by omega)
  have ec : (nI j).toNatClampNeg = j := nI_clamp (by omega)
  have e78 : T.1 78 (nI j).toNatClampNeg = 31 := by rw [ec]; exact ho
  refine rg_S (by (try simp only [mPl, mRf, mF, mMu, mPb, mSy, mT, mComs]); repeat first | exact KMf_rfl | refine KMf_ite ?_ ?_ | refine KMf_zi (by omega) ?_) hg h (by rw [ho]; decide) (e_Mo_statementSort (b_Mo_statementSort_0 hin (fun z => absurd (e78.symm.trans z) (by decide)) (fun z => absurd (e78.symm.trans z) (by decide)) (fun z => absurd (e78.symm.trans z) (by decide)) (fun z => absurd (e78.symm.trans z) (by decide)) (fun z => absurd (e78.symm.trans z) (by decide)) (fun z => absurd (e78.symm.trans z) (by decide)) (fun z => absurd (e78.symm.trans z) (by decide)) (fun z => absurd (e78.symm.trans z) (by decide)) (fun z => absurd (e78.symm.trans z) (by decide)) (fun _ => ?_) (fun z => absurd (e78.symm.trans z) (by decide)) (fun z => absurd (e78.symm.trans z) (by decide)) (fun z => absurd (e78.symm.trans z) (by decide)) (fun z => absurd (e78.symm.trans z) (by decide)) (fun z => absurd (e78.symm.trans z) (by decide)) (fun z => absurd (e78.symm.trans z) (by decide)) (fun z => absurd (e78.symm.trans z) (by decide)) (fun z => absurd (e78.symm.trans z) (by decide)) (fun z => absurd (e78.symm.trans z) (by decide)) (fun z => absurd (e78.symm.trans z) (by decide)) (fun z => absurd (e78.symm.trans z) (by decide)) (fun _ _ _ _ _ _ _ _ _ q _ _ _ _ _ _ _ _ _ _ _ => absurd e78 q)))
  refine b_Mo_statementSort_454 (R := fun T' => T' = mF T 4 (T.1 81 j)) hg (e_Mo_assigned (b_Mo_assigned_0 hg (wm_used hg h34 hM hj) (fun x A hA => ?_))) (fun A eA => b_Mo_statementSort_459 (b_Mo_statementSort_721 ⟨rfl, eA⟩))
  rw [hA.1, hA.2, hv, if_pos rfl, mT_0 h7]
  exact b_Mo_assigned_5 (fun z => absurd (by rw [mF_f.1] at z; exact z) (by decide)) (fun _ => b_Mo_assigned_13 ⟨rfl, rfl⟩)
theorem r_31 (hg : ip_gk (lg_tbl, vwCl, Gr)) (h : RIx T j mz) (ho : T.1 78 j = 31) (h34 : T.1 73 34 = nI M) (hM : M ≤ 2500) (hv : mv T (T.1 79 j) M = nI s) (hs : s < 2500) : RG l Gr n w d T j (if T.1 91 s = 2 ∧ (if T.1 93 s ≤ 0 then 0 else 1) = (0 : Int32) then T else mF T 5 (T.1 81 j)) (j + 1) := by
  have hmz := h.2.1
  have h7 := h.2.2.1
  have hlt := h.2.2.2
  have hj : j < 12000 := by omega
  have hin : vp_in (nI j) 12000 := vp_in_nI hj (by omega)
  have ec : (nI j).toNatClampNeg = j := nI_clamp (by omega)
  have e78 : T.1 78 (nI j).toNatClampNeg = 31 := by rw [ec]; exact ho
  refine rg_S (by (try simp only [mPl, mRf, mF, mMu, mPb, mSy, mT, mComs]); repeat first | exact KMf_rfl | refine KMf_ite ?_ ?_ | refine KMf_zi (by omega) ?_) hg h (by rw [ho]; decide) (e_Mo_statementSort (b_Mo_statementSort_0 hin (fun z => absurd (e78.symm.trans z) (by decide)) (fun z => absurd (e78.symm.trans z) (by decide)) (fun z => absurd (e78.symm.trans z) (by decide)) (fun z => absurd (e78.symm.trans z) (by decide)) (fun z => absurd (e78.symm.trans z) (by decide)) (fun z => absurd (e78.symm.trans z) (by decide)) (fun z => absurd (e78.symm.trans z) (by decide)) (fun z => absurd (e78.symm.trans z) (by decide)) (fun z => absurd (e78.symm.trans z) (by decide)) (fun _ => ?_) (fun z => absurd (e78.symm.trans z) (by decide)) (fun z => absurd (e78.symm.trans z) (by decide)) (fun z => absurd (e78.symm.trans z) (by decide)) (fun z => absurd (e78.symm.trans z) (by decide)) (fun z => absurd (e78.symm.trans z) (by decide)) (fun z => absurd (e78.symm.trans z) (by decide)) (fun z => absurd (e78.symm.trans z) (by decide)) (fun z => absurd (e78.symm.trans z) (by decide)) (fun z => absurd (e78.symm.trans z) (by decide)) (fun z => absurd (e78.symm.trans z) (by decide)) (fun z => absurd (e78.symm.trans z) (by decide)) (fun _ _ _ _ _ _ _ _ _ q _ _ _ _ _ _ _ _ _ _ _ => absurd e78 q)))
  have hns := nI_no (v := s) (by omega)
  have hsn : vp_in (nI s) 2500 := vp_in_nI hs (by omega)
  have cs : (nI s).toNatClampNeg = s := nI_clamp (by omega)
  refine b_Mo_statementSort_454 (R := fun T' => T' = if T.1 91 s = 2 ∧ (if T.1 93 s ≤ 0 then 0 else 1) = (0 : Int32) then T else mF T 5 (T.1 81 j)) hg (e_Mo_assigned (b_Mo_assigned_0 hg (wm_used hg h34 hM hj) (fun x A hA => ?_))) (fun A eA => b_Mo_statementSort_459 (b_Mo_statementSort_721 ⟨rfl, eA⟩))
  rw [hA.1, hA.2, hv, if_neg hns]
  obtain ⟨ar, ear⟩ : ∃ ar : Int32, ar = if T.1 93 s ≤ 0 then 0 else 1 := ⟨_, rfl⟩
  rw [← ear]
  have bad : ¬ (T.1 91 s = 2 ∧ ar = (0 : Int32)) → zW l Gr (zc n w) 168 M_Mo_assigned (d + 2) 59 [some (.ref 105), some (.int (nI j)), none, none] [] T (fun v T' => v = none ∧ T' = if T.1 91 s = 2 ∧ ar = (0 : Int32) then T else mF T 5 (T.1 81 j)) := fun hn =>
    b_Mo_assigned_59 hg hin (wm_fail h7) (fun A eA => b_Mo_assigned_70 ⟨rfl, by rw [eA, ec, if_neg hn]⟩)
  have k28 : zW l Gr (zc n w) 168 M_Mo_assigned (d + 2) 28 [some (.ref 105), some (.int (nI j)), some (.int (nI s)), none] [.int ar] T (fun v T' => v = none ∧ T' = if T.1 91 s = 2 ∧ ar = (0 : Int32) then T else mF T 5 (T.1 81 j)) := by
    refine b_Mo_assigned_28 hsn (fun z => bad (fun q => z (by rw [cs]; exact q.1))) (fun z => ?_)
    rw [cs] at z
    have k56 : ∀ x : Int32, x = 0 → zW l Gr (zc n w) 168 M_Mo_assigned (d + 2) 56 [some (.ref 105), some (.int (nI j)), none, none] [.int x, .int ar] T (fun v T' => v = none ∧ T' = if T.1 91 s = 2 ∧ ar = (0 : Int32) then T else mF T 5 (T.1 81 j)) := fun x hx => by
      subst hx
      exact b_Mo_assigned_56 (fun y => b_Mo_assigned_70 ⟨rfl, by rw [if_pos ⟨z, y⟩]⟩) (fun y => bad (fun q => y q.2))
    exact b_Mo_assigned_39 hin (fun z2 => b_Mo_assigned_55 (k56 0 rfl)) (fun z2 => absurd (e78.symm.trans z2) (by decide))
  refine b_Mo_assigned_5 (fun _ => b_Mo_assigned_14 hsn (fun z => b_Mo_assigned_27 ?_) (fun z => b_Mo_assigned_23 ?_)) (fun z => absurd (by rw [h7]; exact Int32.le_refl _) z)
  · rw [cs] at z
    rw [if_pos z] at ear
    rw [ear] at k28 ⊢
    exact k28
  · rw [cs] at z
    rw [if_neg z] at ear
    rw [ear] at k28 ⊢
    exact k28
theorem r_33n (hg : ip_gk (lg_tbl, vwCl, Gr)) (h : RIx T j mz) (ho : T.1 78 j = 33) (h34 : T.1 73 34 = nI M) (hM : M ≤ 2500) (hv : mv T (T.1 79 j) M = -1) : RG l Gr n w d T j (mF T 4 (T.1 81 j)) (j + 1) := by
  have hmz := h.2.1
  have h7 := h.2.2.1
  have hlt := h.2.2.2
  have hj : j < 12000 := by omega
  have hin : vp_in (nI j) 12000 := vp_in_nI hj (by omega)
  have ec : (nI j).toNatClampNeg = j := nI_clamp (by omega)
  have e78 : T.1 78 (nI j).toNatClampNeg = 33 := by rw [ec]; exact ho
  refine rg_S (by (try simp only [mPl, mRf, mF, mMu, mPb, mSy, mT, mComs]); repeat first | exact KMf_rfl | refine KMf_ite ?_ ?_ | refine KMf_zi (by omega) ?_) hg h (by rw [ho]; decide) (e_Mo_statementSort (b_Mo_statementSort_0 hin (fun z => absurd (e78.symm.trans z) (by decide)) (fun z => absurd (e78.symm.trans z) (by decide)) (fun z => absurd (e78.symm.trans z) (by decide)) (fun z => absurd (e78.symm.trans z) (by decide)) (fun z => absurd (e78.symm.trans z) (by decide)) (fun z => absurd (e78.symm.trans z) (by decide)) (fun z => absurd (e78.symm.trans z) (by decide)) (fun z => absurd (e78.symm.trans z) (by decide)) (fun z => absurd (e78.symm.trans z) (by decide)) (fun z => absurd (e78.symm.trans z) (by decide)) (fun z => absurd (e78.symm.trans z) (by decide)) (fun _ => ?_) (fun z => absurd (e78.symm.trans z) (by decide)) (fun z => absurd (e78.symm.trans z) (by decide)) (fun z => absurd (e78.symm.trans z) (by decide)) (fun z => absurd (e78.symm.trans z) (by decide)) (fun z => absurd (e78.symm.trans z) (by decide)) (fun z => absurd (e78.symm.trans z) (by decide)) (fun z => absurd (e78.symm.trans z) (by decide)) (fun z => absurd (e78.symm.trans z) (by decide)) (fun z => absurd (e78.symm.trans z) (by decide)) (fun _ _ _ _ _ _ _ _ _ _ _ q _ _ _ _ _ _ _ _ _ => absurd e78 q)))
  refine b_Mo_statementSort_454 (R := fun T' => T' = mF T 4 (T.1 81 j)) hg (e_Mo_assigned (b_Mo_assigned_0 hg (wm_used hg h34 hM hj) (fun x A hA => ?_))) (fun A eA => b_Mo_statementSort_459 (b_Mo_statementSort_721 ⟨rfl, eA⟩))
  rw [hA.1, hA.2, hv, if_pos rfl, mT_0 h7]
  exact b_Mo_assigned_5 (fun z => absurd (by rw [mF_f.1] at z; exact z) (by decide)) (fun _ => b_Mo_assigned_13 ⟨rfl, rfl⟩)
theorem r_33 (hg : ip_gk (lg_tbl, vwCl, Gr)) (h : RIx T j mz) (ho : T.1 78 j = 33) (h34 : T.1 73 34 = nI M) (hM : M ≤ 2500) (hv : mv T (T.1 79 j) M = nI s) (hs : s < 2500) : RG l Gr n w d T j (if T.1 91 s = 2 ∧ (if T.1 93 s ≤ 0 then 0 else 1) = (1 : Int32) then T else mF T 5 (T.1 81 j)) (j + 1) := by
  have hmz := h.2.1
  have h7 := h.2.2.1
  have hlt := h.2.2.2
  have hj : j < 12000 := by omega
  have hin : vp_in (nI j) 12000 := vp_in_nI hj (by omega)
  have ec : (nI j).toNatClampNeg = j := nI_clamp (by omega)
  have e78 : T.1 78 (nI j).toNatClampNeg = 33 := by rw [ec]; exact ho
  refine rg_S (by (try simp only [mPl, mRf, mF, mMu, mPb, mSy, mT, mComs]); repeat first | exact KMf_rfl | refine KMf_ite ?_ ?_ | refine KMf_zi (by omega) ?_) hg h (by rw [ho]; decide) (e_Mo_statementSort (b_Mo_statementSort_0 hin (fun z => absurd (e78.symm.trans z) (by decide)) (fun z => absurd (e78.symm.trans z) (by decide)) (fun z => absurd (e78.symm.trans z) (by decide)) (fun z => absurd (e78.symm.trans z) (by decide)) (fun z => absurd (e78.symm.trans z) (by decide)) (fun z => absurd (e78.symm.trans z) (by decide)) (fun z => absurd (e78.symm.trans z) (by decide)) (fun z => absurd (e78.symm.trans z) (by decide)) (fun z => absurd (e78.symm.trans z) (by decide)) (fun z => absurd (e78.symm.trans z) (by decide)) (fun z => absurd (e78.symm.trans z) (by decide)) (fun _ => ?_) (fun z => absurd (e78.symm.trans z) (by decide)) (fun z => absurd (e78.symm.trans z) (by decide)) (fun z => absurd (e78.symm.trans z) (by decide)) (fun z => absurd (e78.symm.trans z) (by decide)) (fun z => absurd (e78.symm.trans z) (by decide)) (fun z => absurd (e78.symm.trans z) (by decide)) (fun z => absurd (e78.symm.trans z) (by decide)) (fun z => absurd (e78.symm.trans z) (by decide)) (fun z => absurd (e78.symm.trans z) (by decide)) (fun _ _ _ _ _ _ _ _ _ _ _ q _ _ _ _ _ _ _ _ _ => absurd e78 q)))
  have hns := nI_no (v := s) (by omega)
  have hsn : vp_in (nI s) 2500 := vp_in_nI hs (by omega)
  have cs : (nI s).toNatClampNeg = s := nI_clamp (by omega)
  refine b_Mo_statementSort_454 (R := fun T' => T' = if T.1 91 s = 2 ∧ (if T.1 93 s ≤ 0 then 0 else 1) = (1 : Int32) then T else mF T 5 (T.1 81 j)) hg (e_Mo_assigned (b_Mo_assigned_0 hg (wm_used hg h34 hM hj) (fun x A hA => ?_))) (fun A eA => b_Mo_statementSort_459 (b_Mo_statementSort_721 ⟨rfl, eA⟩))
  rw [hA.1, hA.2, hv, if_neg hns]
  obtain ⟨ar, ear⟩ : ∃ ar : Int32, ar = if T.1 93 s ≤ 0 then 0 else 1 := ⟨_, rfl⟩
  rw [← ear]
  have bad : ¬ (T.1 91 s = 2 ∧ ar = (1 : Int32)) → zW l Gr (zc n w) 168 M_Mo_assigned (d + 2) 59 [some (.ref 105), some (.int (nI j)), none, none] [] T (fun v T' => v = none ∧ T' = if T.1 91 s = 2 ∧ ar = (1 : Int32) then T else mF T 5 (T.1 81 j)) := fun hn =>
    b_Mo_assigned_59 hg hin (wm_fail h7) (fun A eA => b_Mo_assigned_70 ⟨rfl, by rw [eA, ec, if_neg hn]⟩)
  have k28 : zW l Gr (zc n w) 168 M_Mo_assigned (d + 2) 28 [some (.ref 105), some (.int (nI j)), some (.int (nI s)), none] [.int ar] T (fun v T' => v = none ∧ T' = if T.1 91 s = 2 ∧ ar = (1 : Int32) then T else mF T 5 (T.1 81 j)) := by
    refine b_Mo_assigned_28 hsn (fun z => bad (fun q => z (by rw [cs]; exact q.1))) (fun z => ?_)
    rw [cs] at z
    have k56 : ∀ x : Int32, x = 1 → zW l Gr (zc n w) 168 M_Mo_assigned (d + 2) 56 [some (.ref 105), some (.int (nI j)), none, none] [.int x, .int ar] T (fun v T' => v = none ∧ T' = if T.1 91 s = 2 ∧ ar = (1 : Int32) then T else mF T 5 (T.1 81 j)) := fun x hx => by
      subst hx
      exact b_Mo_assigned_56 (fun y => b_Mo_assigned_70 ⟨rfl, by rw [if_pos ⟨z, y⟩]⟩) (fun y => bad (fun q => y q.2))
    exact b_Mo_assigned_39 hin (fun z2 => absurd e78 z2) (fun z2 => b_Mo_assigned_51 (k56 1 rfl))
  refine b_Mo_assigned_5 (fun _ => b_Mo_assigned_14 hsn (fun z => b_Mo_assigned_27 ?_) (fun z => b_Mo_assigned_23 ?_)) (fun z => absurd (by rw [h7]; exact Int32.le_refl _) z)
  · rw [cs] at z
    rw [if_pos z] at ear
    rw [ear] at k28 ⊢
    exact k28
  · rw [cs] at z
    rw [if_neg z] at ear
    rw [ear] at k28 ⊢
    exact k28
theorem r_28 (hg : ip_gk (lg_tbl, vwCl, Gr)) (h : RIx T j mz) (ho : T.1 78 j = 28) (h34 : T.1 73 34 = nI M) (hM : M ≤ 2500) (h62 : T.1 73 62 = nI F) (hF : F ≤ M) : RG l Gr n w d T j (mSn (zi T 73 47 1) F (M - F)) (j + 1) := by
  have hmz := h.2.1
  have h7 := h.2.2.1
  have hlt := h.2.2.2
  have hj : j < 12000 := by omega
  have hin : vp_in (nI j) 12000 := vp_in_nI hj (by omega)
  have ec : (nI j).toNatClampNeg = j := nI_clamp (by omega)
  have e78 : T.1 78 (nI j).toNatClampNeg = 28 := by rw [ec]; exact ho
  refine rg_S (KMf_mSn (KMf_zi (by omega) KMf_rfl) _) hg h (by rw [ho]; decide) (e_Mo_statementSort (b_Mo_statementSort_0 hin (fun z => absurd (e78.symm.trans z) (by decide)) (fun z => absurd (e78.symm.trans z) (by decide)) (fun z => absurd (e78.symm.trans z) (by decide)) (fun z => absurd (e78.symm.trans z) (by decide)) (fun z => absurd (e78.symm.trans z) (by decide)) (fun z => absurd (e78.symm.trans z) (by decide)) (fun _ => ?_) (fun z => absurd (e78.symm.trans z) (by decide)) (fun z => absurd (e78.symm.trans z) (by decide)) (fun z => absurd (e78.symm.trans z) (by decide)) (fun z => absurd (e78.symm.trans z) (by decide)) (fun z => absurd (e78.symm.trans z) (by decide)) (fun z => absurd (e78.symm.trans z) (by decide)) (fun z => absurd (e78.symm.trans z) (by decide)) (fun z => absurd (e78.symm.trans z) (by decide)) (fun z => absurd (e78.symm.trans z) (by decide)) (fun z => absurd (e78.symm.trans z) (by decide)) (fun z => absurd (e78.symm.trans z) (by decide)) (fun z => absurd (e78.symm.trans z) (by decide)) (fun z => absurd (e78.symm.trans z) (by decide)) (fun z => absurd (e78.symm.trans z) (by decide)) (fun _ _ _ _ _ _ q _ _ _ _ _ _ _ _ _ _ _ _ _ _ => absurd e78 q)))
  refine b_Mo_statementSort_299 ?_
  rw [h62]
  have loop : ∀ (u i : Nat), i + u = M - F → zW l Gr (zc n w) 168 M_Mo_statementSort (d + 3) 309 [some (.ref 105), none, some (.int (nI (F + i))), none] [] (mSn (zi T 73 47 1) F i) (fun v T' => v = none ∧ T' = mSn (zi T 73 47 1) F (M - F)) := fun u => by
    induction u with
    | zero =>
      intro i hi
      have e : i = M - F := by omega
      subst e
      refine b_Mo_statementSort_309 (fun _ => b_Mo_statementSort_330 (b_Mo_statementSort_721 ⟨rfl, rfl⟩)) (fun z => absurd ?_ z)
      rw [mSn_c (by decide), zi_k (by decide), h34]
      exact nI_le (by omega) (by omega)
    | succ u ih =>
      intro i hi
      refine b_Mo_statementSort_309 (fun z => ?_) (fun _ => b_Mo_statementSort_317 (vp_in_nI (by omega) (by omega)) ?_)
      · rw [mSn_c (by decide), zi_k (by decide), h34] at z
        exact absurd z (nI_ge (by omega) (by omega))
      · rw [nI_clamp (by omega), show nI (F + i) + Int32.ofInt 1 = nI (F + (i + 1)) from nI_1 _]
        exact ih (i + 1) (by omega)
  exact loop (M - F) 0 (by omega)
theorem r_29a (hg : ip_gk (lg_tbl, vwCl, Gr)) (h : RIx T j mz) (ho : T.1 78 j = 29) (h43 : T.1 73 43 = nI (m + 1)) (hm : m < 4200) (hA : ¬ T.1 98 m = T.1 80 j) : RG l Gr n w d T j (zi (zi (zi (mF T 5 (T.1 99 m)) 73 43 (nI m)) 73 47 0) 73 34 (T.1 73 62)) (j + 1) := by
  have hmz := h.2.1
  have h7 := h.2.2.1
  have hlt := h.2.2.2
  have hj : j < 12000 := by omega
  have hin : vp_in (nI j) 12000 := vp_in_nI hj (by omega)
  have ec : (nI j).toNatClampNeg = j := nI_clamp (by omega)
  have e78 : T.1 78 (nI j).toNatClampNeg = 29 := by rw [ec]; exact ho
  refine rg_S (by (try simp only [mPl, mRf, mF, mMu, mPb, mSy, mT, mComs]); repeat first | exact KMf_rfl | refine KMf_ite ?_ ?_ | refine KMf_zi (by omega) ?_) hg h (by rw [ho]; decide) (e_Mo_statementSort (b_Mo_statementSort_0 hin (fun z => absurd (e78.symm.trans z) (by decide)) (fun z => absurd (e78.symm.trans z) (by decide)) (fun z => absurd (e78.symm.trans z) (by decide)) (fun z => absurd (e78.symm.trans z) (by decide)) (fun z => absurd (e78.symm.trans z) (by decide)) (fun z => absurd (e78.symm.trans z) (by decide)) (fun z => absurd (e78.symm.trans z) (by decide)) (fun _ => ?_) (fun z => absurd (e78.symm.trans z) (by decide)) (fun z => absurd (e78.symm.trans z) (by decide)) (fun z => absurd (e78.symm.trans z) (by decide)) (fun z => absurd (e78.symm.trans z) (by decide)) (fun z => absurd (e78.symm.trans z) (by decide)) (fun z => absurd (e78.symm.trans z) (by decide)) (fun z => absurd (e78.symm.trans z) (by decide)) (fun z => absurd (e78.symm.trans z) (by decide)) (fun z => absurd (e78.symm.trans z) (by decide)) (fun z => absurd (e78.symm.trans z) (by decide)) (fun z => absurd (e78.symm.trans z) (by decide)) (fun z => absurd (e78.symm.trans z) (by decide)) (fun z => absurd (e78.symm.trans z) (by decide)) (fun _ _ _ _ _ _ _ q _ _ _ _ _ _ _ _ _ _ _ _ _ => absurd e78 q)))
  refine b_Mo_statementSort_333 hg hin (wm_must hg h43 hm) (fun A eA => ?_)
  have e2 : mMu T m (T.1 80 (nI j).toNatClampNeg) = mF T 5 (T.1 99 m) := by rw [ec]; unfold mMu; rw [if_pos ⟨h7, hA⟩]
  rw [eA, e2]
  refine b_Mo_statementSort_343 (fun _ => b_Mo_statementSort_721 ⟨rfl, ?_⟩) (fun z => ?_)
  · rw [mF_c' (k := 43) (by omega), mF_c' (k := 62) (by omega), h43, nI_pred]
  · rw [mF_f.1] at z
    exact absurd z (by decide)
theorem r_29 (hg : ip_gk (lg_tbl, vwCl, Gr)) (h : RIx T j mz) (ho : T.1 78 j = 29) (h43 : T.1 73 43 = nI (m + 1)) (hm : m < 4200) (h62 : T.1 73 62 = nI F) (hF : F < 2500) (hA : T.1 98 m = T.1 80 j) : RG l Gr n w d T j (zi (zi (mSy (zi (zi (zi T 73 43 (nI m)) 73 47 0) 73 34 (nI F)) F (T.1 79 j) 5 (T.1 80 j) 0 (T.1 73 63)) 96 F (T.1 73 61)) 97 F (T.1 73 60 - T.1 73 61)) (j + 1) := by
  have hmz := h.2.1
  have h7 := h.2.2.1
  have hlt := h.2.2.2
  have hj : j < 12000 := by omega
  have hin : vp_in (nI j) 12000 := vp_in_nI hj (by omega)
  have ec : (nI j).toNatClampNeg = j := nI_clamp (by omega)
  have e78 : T.1 78 (nI j).toNatClampNeg = 29 := by rw [ec]; exact ho
  refine rg_S (by (try simp only [mPl, mRf, mF, mMu, mPb, mSy, mT, mComs]); repeat first | exact KMf_rfl | refine KMf_ite ?_ ?_ | refine KMf_zi (by omega) ?_) hg h (by rw [ho]; decide) (e_Mo_statementSort (b_Mo_statementSort_0 hin (fun z => absurd (e78.symm.trans z) (by decide)) (fun z => absurd (e78.symm.trans z) (by decide)) (fun z => absurd (e78.symm.trans z) (by decide)) (fun z => absurd (e78.symm.trans z) (by decide)) (fun z => absurd (e78.symm.trans z) (by decide)) (fun z => absurd (e78.symm.trans z) (by decide)) (fun z => absurd (e78.symm.trans z) (by decide)) (fun _ => ?_) (fun z => absurd (e78.symm.trans z) (by decide)) (fun z => absurd (e78.symm.trans z) (by decide)) (fun z => absurd (e78.symm.trans z) (by decide)) (fun z => absurd (e78.symm.trans z) (by decide)) (fun z => absurd (e78.symm.trans z) (by decide)) (fun z => absurd (e78.symm.trans z) (by decide)) (fun z => absurd (e78.symm.trans z) (by decide)) (fun z => absurd (e78.symm.trans z) (by decide)) (fun z => absurd (e78.symm.trans z) (by decide)) (fun z => absurd (e78.symm.trans z) (by decide)) (fun z => absurd (e78.symm.trans z) (by decide)) (fun z => absurd (e78.symm.trans z) (by decide)) (fun z => absurd (e78.symm.trans z) (by decide)) (fun _ _ _ _ _ _ _ q _ _ _ _ _ _ _ _ _ _ _ _ _ => absurd e78 q)))
  refine b_Mo_statementSort_333 hg hin (wm_must hg h43 hm) (fun A eA => ?_)
  have e2 : mMu T m (T.1 80 (nI j).toNatClampNeg) = T := by rw [ec]; unfold mMu; rw [if_neg (fun q => q.2 hA)]
  rw [eA, e2]
  refine b_Mo_statementSort_343 (fun z => absurd h7 z) (fun _ => ?_)
  rw [h43, nI_pred, h62]
  obtain ⟨Y, eY⟩ : ∃ Y, Y = zi (zi (zi T 73 43 (nI m)) 73 47 0) 73 34 (nI F) := ⟨_, rfl⟩
  have yc : ∀ c k, c ≠ 73 → Y.1 c k = T.1 c k := fun c k hc => by rw [eY, zi_c hc, zi_c hc, zi_c hc]
  have yk : ∀ k, k ≠ 34 → k ≠ 43 → k ≠ 47 → Y.1 73 k = T.1 73 k := fun k a1 a2 a3 => by rw [eY, zi_k a1, zi_k a3, zi_k a2]
  have y34 : Y.1 73 34 = nI F := by rw [eY]; exact zi_v
  rw [← eY]
  refine b_Mo_statementSort_373 (R := fun x T' => x = nI F ∧ T' = mSy Y F (T.1 79 j) 5 (T.1 80 j) 0 (T.1 73 63)) hg hin ?_ (fun x A hA => ?_)
  · rw [ec, yc 79 j (by decide), yc 80 j (by decide), yk 63 (by decide) (by decide) (by decide)]
    exact wm_sym y34 hF
  · rw [hA.1, hA.2]
    have sc : ∀ k, k ≠ 34 → (mSy Y F (T.1 79 j) 5 (T.1 80 j) 0 (T.1 73 63)).1 73 k = Y.1 73 k := fun k hk => by
      unfold mSy
      rw [zi_k hk, zi_c (by decide), zi_c (by decide), zi_c (by decide), zi_c (by decide), zi_c (by decide), zi_c (by decide)]
    refine b_Mo_statementSort_395 (vp_in_nI hF (by omega)) (b_Mo_statementSort_721 ⟨rfl, ?_⟩)
    rw [nI_clamp (by omega), sc 61 (by decide), sc 60 (by decide), yk 61 (by decide) (by decide) (by decide), yk 60 (by decide) (by decide) (by decide)]
theorem r_23 (hg : ip_gk (lg_tbl, vwCl, Gr)) (h : RIx T j mz) (ho : T.1 78 j = 23) (h34 : T.1 73 34 = nI M) (hM : M < 2500) {z : Nat} (hz : ((T.2 82 j) &&& 255).toInt32 = nI z) (hz8 : z ≤ 64) : RG l Gr n w d T j (zi (zi (mSy T M (T.1 79 j) 1 (T.1 80 j) (nI z) (T.1 73 59)) 89 j (T.1 73 59)) 73 59 (T.1 73 59 + nI (max 1 z))) (j + 1) := by
  have hmz := h.2.1
  have h7 := h.2.2.1
  have hlt := h.2.2.2
  have hj : j < 12000 := by omega
  have hin : vp_in (nI j) 12000 := vp_in_nI hj (by omega)
  have ec : (nI j).toNatClampNeg = j := nI_clamp (by omega)
  have e78 : T.1 78 (nI j).toNatClampNeg = 23 := by rw [ec]; exact ho
  refine rg_S (by (try simp only [mPl, mRf, mF, mMu, mPb, mSy, mT, mComs]); repeat first | exact KMf_rfl | refine KMf_ite ?_ ?_ | refine KMf_zi (by omega) ?_) hg h (by rw [ho]; decide) (e_Mo_statementSort (b_Mo_statementSort_0 hin (fun z => absurd (e78.symm.trans z) (by decide)) (fun _ => ?_) (fun z => absurd (e78.symm.trans z) (by decide)) (fun z => absurd (e78.symm.trans z) (by decide)) (fun z => absurd (e78.symm.trans z) (by decide)) (fun z => absurd (e78.symm.trans z) (by decide)) (fun z => absurd (e78.symm.trans z) (by decide)) (fun z => absurd (e78.symm.trans z) (by decide)) (fun z => absurd (e78.symm.trans z) (by decide)) (fun z => absurd (e78.symm.trans z) (by decide)) (fun z => absurd (e78.symm.trans z) (by decide)) (fun z => absurd (e78.symm.trans z) (by decide)) (fun z => absurd (e78.symm.trans z) (by decide)) (fun z => absurd (e78.symm.trans z) (by decide)) (fun z => absurd (e78.symm.trans z) (by decide)) (fun z => absurd (e78.symm.trans z) (by decide)) (fun z => absurd (e78.symm.trans z) (by decide)) (fun z => absurd (e78.symm.trans z) (by decide)) (fun z => absurd (e78.symm.trans z) (by decide)) (fun z => absurd (e78.symm.trans z) (by decide)) (fun z => absurd (e78.symm.trans z) (by decide)) (fun _ q _ _ _ _ _ _ _ _ _ _ _ _ _ _ _ _ _ _ _ => absurd e78 q)))
  refine b_Mo_statementSort_152 (R := fun x T' => x = nI M ∧ T' = mSy T M (T.1 79 j) 1 (T.1 80 j) (nI z) (T.1 73 59)) hg hin (by rw [ec, hz]; exact wm_sym h34 hM) (fun x A hA => ?_)
  rw [hA.2, ec, hz]
  have sc : (mSy T M (T.1 79 j) 1 (T.1 80 j) (nI z) (T.1 73 59)).1 73 59 = T.1 73 59 := by
    unfold mSy
    rw [zi_k (by decide), zi_c (by decide), zi_c (by decide), zi_c (by decide), zi_c (by decide), zi_c (by decide), zi_c (by decide)]
  refine b_Mo_statementSort_186 hin (fun y => b_Mo_statementSort_210 (b_Mo_statementSort_211 (b_Mo_statementSort_721 ⟨rfl, ?_⟩))) (fun y => b_Mo_statementSort_206 (b_Mo_statementSort_211 (b_Mo_statementSort_721 ⟨rfl, ?_⟩)))
  · rw [sc, ec]
    have : max 1 z = z := by
      have : ¬ z = 0 := fun q => y (by rw [q]; rfl)
      omega
    rw [this]
  · rw [sc, ec]
    have : z = 0 := (nI_eq (a := z) (b := 0) (by omega) (by omega)).mp y
    rw [this]
    rfl
theorem r_25z (hg : ip_gk (lg_tbl, vwCl, Gr)) (h : RIx T j mz) (ho : T.1 78 j = 25) (h34 : T.1 73 34 = nI M) (hM : M < 2500) {z : Nat} (hz : (((T.2 82 j) >>> ((8 : Int32).toInt64 &&& 63)) &&& 255).toInt32 = nI z) (hw : lg_cmp (T.2 82 j) 65536 < 0) : RG l Gr n w d T j (mSy T M (T.1 79 j) 2 (T.1 80 j) (nI z) (T.1 89 j)) (j + 1) := by
  have hmz := h.2.1
  have h7 := h.2.2.1
  have hlt := h.2.2.2
  have hj : j < 12000 := by omega
  have hin : vp_in (nI j) 12000 := vp_in_nI hj (by omega)
  have ec : (nI j).toNatClampNeg = j := nI_clamp (by omega)
  have e78 : T.1 78 (nI j).toNatClampNeg = 25 := by rw [ec]; exact ho
  refine rg_S (by (try simp only [mPl, mRf, mF, mMu, mPb, mSy, mT, mComs]); repeat first | exact KMf_rfl | refine KMf_ite ?_ ?_ | refine KMf_zi (by omega) ?_) hg h (by rw [ho]; decide) (e_Mo_statementSort (b_Mo_statementSort_0 hin (fun z => absurd (e78.symm.trans z) (by decide)) (fun z => absurd (e78.symm.trans z) (by decide)) (fun z => absurd (e78.symm.trans z) (by decide)) (fun _ => ?_) (fun z => absurd (e78.symm.trans z) (by decide)) (fun z => absurd (e78.symm.trans z) (by decide)) (fun z => absurd (e78.symm.trans z) (by decide)) (fun z => absurd (e78.symm.trans z) (by decide)) (fun z => absurd (e78.symm.trans z) (by decide)) (fun z => absurd (e78.symm.trans z) (by decide)) (fun z => absurd (e78.symm.trans z) (by decide)) (fun z => absurd (e78.symm.trans z) (by decide)) (fun z => absurd (e78.symm.trans z) (by decide)) (fun z => absurd (e78.symm.trans z) (by decide)) (fun z => absurd (e78.symm.trans z) (by decide)) (fun z => absurd (e78.symm.trans z) (by decide)) (fun z => absurd (e78.symm.trans z) (by decide)) (fun z => absurd (e78.symm.trans z) (by decide)) (fun z => absurd (e78.symm.trans z) (by decide)) (fun z => absurd (e78.symm.trans z) (by decide)) (fun z => absurd (e78.symm.trans z) (by decide)) (fun _ _ _ q _ _ _ _ _ _ _ _ _ _ _ _ _ _ _ _ _ => absurd e78 q)))
  refine b_Mo_statementSort_218 hin (fun _ => b_Mo_statementSort_251 (fun y => absurd h7 y) (fun _ => b_Mo_statementSort_258 (R := fun x T' => x = nI M ∧ T' = mSy T M (T.1 79 j) 2 (T.1 80 j) (nI z) (T.1 89 j)) hg hin (by rw [ec, hz]; exact wm_sym h34 hM) (fun x A hA => b_Mo_statementSort_295 (b_Mo_statementSort_721 ⟨rfl, hA.2⟩)))) (fun y => absurd (by rw [ec]; exact hw) y)
theorem r_25 (hg : ip_gk (lg_tbl, vwCl, Gr)) (h : RIx T j mz) (ho : T.1 78 j = 25) (h34 : T.1 73 34 = nI M) (hM : M < 2500) {z : Nat} (hz : (((T.2 82 j) >>> ((8 : Int32).toInt64 &&& 63)) &&& 255).toInt32 = nI z) (hw : ¬ lg_cmp (T.2 82 j) 65536 < 0) (h43 : T.1 73 43 = nI (m + 1)) (hm : m < 4200) (hA : T.1 98 m = T.1 80 j) : RG l Gr n w d T j (mSy (zi T 73 43 (nI m)) M (T.1 79 j) 2 (T.1 80 j) (nI z) (T.1 89 j)) (j + 1) := by
  have hmz := h.2.1
  have h7 := h.2.2.1
  have hlt := h.2.2.2
  have hj : j < 12000 := by omega
  have hin : vp_in (nI j) 12000 := vp_in_nI hj (by omega)
  have ec : (nI j).toNatClampNeg = j := nI_clamp (by omega)
  have e78 : T.1 78 (nI j).toNatClampNeg = 25 := by rw [ec]; exact ho
  refine rg_S (by (try simp only [mPl, mRf, mF, mMu, mPb, mSy, mT, mComs]); repeat first | exact KMf_rfl | refine KMf_ite ?_ ?_ | refine KMf_zi (by omega) ?_) hg h (by rw [ho]; decide) (e_Mo_statementSort (b_Mo_statementSort_0 hin (fun z => absurd (e78.symm.trans z) (by decide)) (fun z => absurd (e78.symm.trans z) (by decide)) (fun z => absurd (e78.symm.trans z) (by decide)) (fun _ => ?_) (fun z => absurd (e78.symm.trans z) (by decide)) (fun z => absurd (e78.symm.trans z) (by decide)) (fun z => absurd (e78.symm.trans z) (by decide)) (fun z => absurd (e78.symm.trans z) (by decide)) (fun z => absurd (e78.symm.trans z) (by decide)) (fun z => absurd (e78.symm.trans z) (by decide)) (fun z => absurd (e78.symm.trans z) (by decide)) (fun z => absurd (e78.symm.trans z) (by decide)) (fun z => absurd (e78.symm.trans z) (by decide)) (fun z => absurd (e78.symm.trans z) (by decide)) (fun z => absurd (e78.symm.trans z) (by decide)) (fun z => absurd (e78.symm.trans z) (by decide)) (fun z => absurd (e78.symm.trans z) (by decide)) (fun z => absurd (e78.symm.trans z) (by decide)) (fun z => absurd (e78.symm.trans z) (by decide)) (fun z => absurd (e78.symm.trans z) (by decide)) (fun z => absurd (e78.symm.trans z) (by decide)) (fun _ _ _ q _ _ _ _ _ _ _ _ _ _ _ _ _ _ _ _ _ => absurd e78 q)))
  refine b_Mo_statementSort_218 hin (fun y => absurd (by rw [ec] at y; exact y) hw) (fun _ => b_Mo_statementSort_231 hg hin (wm_must hg h43 hm) (fun A eA => ?_))
  have e2 : mMu T m (T.1 80 (nI j).toNatClampNeg) = T := by rw [ec]; unfold mMu; rw [if_neg (fun q => q.2 hA)]
  rw [eA, e2]
  refine b_Mo_statementSort_241 ?_
  rw [h43, nI_pred]
  refine b_Mo_statementSort_251 (fun y => absurd (by rw [zi_k (by decide)]; exact h7) y) (fun _ => b_Mo_statementSort_258 (R := fun x T' => x = nI M ∧ T' = mSy (zi T 73 43 (nI m)) M (T.1 79 j) 2 (T.1 80 j) (nI z) (T.1 89 j)) hg hin ?_ (fun x A hA => b_Mo_statementSort_295 (b_Mo_statementSort_721 ⟨rfl, hA.2⟩)))
  rw [ec, zi_c (by decide), zi_c (by decide), zi_c (by decide)]
  show zMi l Gr (zc n w) 168 M_Mo_symbol (d + 2) [.ref 105, .int (T.1 79 j), .int 2, .int (T.1 80 j), .int ((((T.2 82 j) >>> ((8 : Int32).toInt64 &&& 63)) &&& 255)).toInt32, .int (T.1 89 j)] _ _
  rw [hz]
  exact wm_sym (by rw [zi_k (by decide)]; exact h34) hM
theorem r_25a (hg : ip_gk (lg_tbl, vwCl, Gr)) (h : RIx T j mz) (ho : T.1 78 j = 25) (hw : ¬ lg_cmp (T.2 82 j) 65536 < 0) (h43 : T.1 73 43 = nI (m + 1)) (hm : m < 4200) (hA : ¬ T.1 98 m = T.1 80 j) : RG l Gr n w d T j (zi (mF T 5 (T.1 99 m)) 73 43 (nI m)) (j + 1) := by
  have hmz := h.2.1
  have h7 := h.2.2.1
  have hlt := h.2.2.2
  have hj : j < 12000 := by omega
  have hin : vp_in (nI j) 12000 := vp_in_nI hj (by omega)
  have ec : (nI j).toNatClampNeg = j := nI_clamp (by omega)
  have e78 : T.1 78 (nI j).toNatClampNeg = 25 := by rw [ec]; exact ho
  refine rg_S (by (try simp only [mPl, mRf, mF, mMu, mPb, mSy, mT, mComs]); repeat first | exact KMf_rfl | refine KMf_ite ?_ ?_ | refine KMf_zi (by omega) ?_) hg h (by rw [ho]; decide) (e_Mo_statementSort (b_Mo_statementSort_0 hin (fun z => absurd (e78.symm.trans z) (by decide)) (fun z => absurd (e78.symm.trans z) (by decide)) (fun z => absurd (e78.symm.trans z) (by decide)) (fun _ => ?_) (fun z => absurd (e78.symm.trans z) (by decide)) (fun z => absurd (e78.symm.trans z) (by decide)) (fun z => absurd (e78.symm.trans z) (by decide)) (fun z => absurd (e78.symm.trans z) (by decide)) (fun z => absurd (e78.symm.trans z) (by decide)) (fun z => absurd (e78.symm.trans z) (by decide)) (fun z => absurd (e78.symm.trans z) (by decide)) (fun z => absurd (e78.symm.trans z) (by decide)) (fun z => absurd (e78.symm.trans z) (by decide)) (fun z => absurd (e78.symm.trans z) (by decide)) (fun z => absurd (e78.symm.trans z) (by decide)) (fun z => absurd (e78.symm.trans z) (by decide)) (fun z => absurd (e78.symm.trans z) (by decide)) (fun z => absurd (e78.symm.trans z) (by decide)) (fun z => absurd (e78.symm.trans z) (by decide)) (fun z => absurd (e78.symm.trans z) (by decide)) (fun z => absurd (e78.symm.trans z) (by decide)) (fun _ _ _ q _ _ _ _ _ _ _ _ _ _ _ _ _ _ _ _ _ => absurd e78 q)))
  refine b_Mo_statementSort_218 hin (fun y => absurd (by rw [ec] at y; exact y) hw) (fun _ => b_Mo_statementSort_231 hg hin (wm_must hg h43 hm) (fun A eA => ?_))
  have e2 : mMu T m (T.1 80 (nI j).toNatClampNeg) = mF T 5 (T.1 99 m) := by rw [ec]; unfold mMu; rw [if_pos ⟨h7, hA⟩]
  rw [eA, e2]
  refine b_Mo_statementSort_241 ?_
  have f7 : (mF T 5 (T.1 99 m)).1 73 7 = 5 := mF_f.1
  refine b_Mo_statementSort_251 (fun _ => b_Mo_statementSort_721 ⟨rfl, ?_⟩) (fun y => ?_)
  · rw [mF_c' (k := 43) (by omega), h43, nI_pred]
  · rw [zi_k (by decide), f7] at y
    exact absurd y (by decide)
end MKB
