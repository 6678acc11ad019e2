/-! the reference's SORTS: PARAMs and operators in the loop (gm2.py) -/
section MKD
variable {l : Launch} {Gr : zG} {n w : Nat} {d : Nat} {m m0 M s j mz c q F k P dP : Nat} {T T' X : zS} {v r p pb : Int32}
theorem r_27 (hg : ip_gk (lg_tbl, vwCl, Gr)) (h : RIx T j mz) (ho : T.1 78 j = 27) (h34 : T.1 73 34 = nI M) (hM : M < 2500) (h62 : T.1 73 62 = nI F) (hF : F ≤ M) (h60 : T.1 73 60 = nI P) (hP : P < 1000) (h61 : T.1 73 61 = nI dP) (hdP : dP ≤ P) (hd : ¬ mDup T j F M) : RG l Gr n w d T j (zi (mSy (zi (zi T 110 P (T.1 80 j)) 73 60 (nI (P + 1))) M (T.1 79 j) 4 (T.1 80 j) 0 (nI (P - dP))) 95 M 0) (j + 1) := by
  have hmz := h.2.1
  have h7 := h.2.2.1
  have hlt := h.2.2.2
  have hj : j < 12000 := by omega
  have hin : vp_in (nI j) 12000 := vp_in_nI hj (by omega)
  have ec : (nI j).toNatClampNeg = j := nI_clamp (by omega)
  have e78 : T.1 78 (nI j).toNatClampNeg = 27 := by rw [ec]; exact ho
  refine rg_S (by (try simp only [mPl, mRf, mF, mMu, mPb, mSy, mT, mB2, mBi, mSe]); repeat first | exact KMf_rfl | refine KMf_ite ?_ ?_ | refine KMf_zi (by omega) ?_) hg h (by rw [ho]; decide) (e_Mo_statementSort (b_Mo_statementSort_0 hin (fun z => absurd (e78.symm.trans z) (by decide)) (fun z => absurd (e78.symm.trans z) (by decide)) (fun z => absurd (e78.symm.trans z) (by decide)) (fun z => absurd (e78.symm.trans z) (by decide)) (fun z => absurd (e78.symm.trans z) (by decide)) (fun _ => ?_) (fun z => absurd (e78.symm.trans z) (by decide)) (fun z => absurd (e78.symm.trans z) (by decide)) (fun z => absurd (e78.symm.trans z) (by decide)) (fun z => absurd (e78.symm.trans z) (by decide)) (fun z => absurd (e78.symm.trans z) (by decide)) (fun z => absurd (e78.symm.trans z) (by decide)) (fun z => absurd (e78.symm.trans z) (by decide)) (fun z => absurd (e78.symm.trans z) (by decide)) (fun z => absurd (e78.symm.trans z) (by decide)) (fun z => absurd (e78.symm.trans z) (by decide)) (fun z => absurd (e78.symm.trans z) (by decide)) (fun z => absurd (e78.symm.trans z) (by decide)) (fun z => absurd (e78.symm.trans z) (by decide)) (fun z => absurd (e78.symm.trans z) (by decide)) (fun z => absurd (e78.symm.trans z) (by decide)) (fun _ _ _ _ _ q _ _ _ _ _ _ _ _ _ _ _ _ _ _ _ => absurd e78 q)))
  refine b_Mo_statementSort_144 hg (wm_par hg h7 hj h34 hM h62 hF h60 hP h61 hdP) (fun A hA => b_Mo_statementSort_149 (b_Mo_statementSort_721 ⟨rfl, ?_⟩))
  rcases hA with hA | hA
  · exact absurd hA.1 hd
  · exact hA.2
theorem r_27a (hg : ip_gk (lg_tbl, vwCl, Gr)) (h : RIx T j mz) (ho : T.1 78 j = 27) (h34 : T.1 73 34 = nI M) (hM : M < 2500) (h62 : T.1 73 62 = nI F) (hF : F ≤ M) (h60 : T.1 73 60 = nI P) (hP : P < 1000) (h61 : T.1 73 61 = nI dP) (hdP : dP ≤ P) (hd : mDup T j F M) : RG l Gr n w d T j (mF T 4 (T.1 81 j)) (j + 1) := by
  have hmz := h.2.1
  have h7 := h.2.2.1
  have hlt := h.2.2.2
  have hj : j < 12000 := by omega
  have hin : vp_in (nI j) 12000 := vp_in_nI hj (by omega)
  have ec : (nI j).toNatClampNeg = j := nI_clamp (by omega)
  have e78 : T.1 78 (nI j).toNatClampNeg = 27 := by rw [ec]; exact ho
  refine rg_S (by (try simp only [mPl, mRf, mF, mMu, mPb, mSy, mT, mB2, mBi, mSe]); repeat first | exact KMf_rfl | refine KMf_ite ?_ ?_ | refine KMf_zi (by omega) ?_) hg h (by rw [ho]; decide) (e_Mo_statementSort (b_Mo_statementSort_0 hin (fun z => absurd (e78.symm.trans z) (by decide)) (fun z => absurd (e78.symm.trans z) (by decide)) (fun z => absurd (e78.symm.trans z) (by decide)) (fun z => absurd (e78.symm.trans z) (by decide)) (fun z => absurd (e78.symm.trans z) (by decide)) (fun _ => ?_) (fun z => absurd (e78.symm.trans z) (by decide)) (fun z => absurd (e78.symm.trans z) (by decide)) (fun z => absurd (e78.symm.trans z) (by decide)) (fun z => absurd (e78.symm.trans z) (by decide)) (fun z => absurd (e78.symm.trans z) (by decide)) (fun z => absurd (e78.symm.trans z) (by decide)) (fun z => absurd (e78.symm.trans z) (by decide)) (fun z => absurd (e78.symm.trans z) (by decide)) (fun z => absurd (e78.symm.trans z) (by decide)) (fun z => absurd (e78.symm.trans z) (by decide)) (fun z => absurd (e78.symm.trans z) (by decide)) (fun z => absurd (e78.symm.trans z) (by decide)) (fun z => absurd (e78.symm.trans z) (by decide)) (fun z => absurd (e78.symm.trans z) (by decide)) (fun z => absurd (e78.symm.trans z) (by decide)) (fun _ _ _ _ _ q _ _ _ _ _ _ _ _ _ _ _ _ _ _ _ => absurd e78 q)))
  refine b_Mo_statementSort_144 hg (wm_par hg h7 hj h34 hM h62 hF h60 hP h61 hdP) (fun A hA => b_Mo_statementSort_149 (b_Mo_statementSort_721 ⟨rfl, ?_⟩))
  rcases hA with hA | hA
  · exact hA.2
  · exact absurd hd hA.1
theorem r_13 (hg : ip_gk (lg_tbl, vwCl, Gr)) (h : RIx T j mz) (ho : T.1 78 j = 13) (h43 : T.1 73 43 = nI (m + 2)) (hm : m + 1 < 4200) : RG l Gr n w d T j (if mFits (T.1 98 m) (T.1 98 (m + 1)) (T.1 79 j) then mB2 T (mBi T m j) m j else mF T 5 (T.1 81 j)) (j + 1) := by
  have hmz := h.2.1
  have h7 := h.2.2.1
  have hlt := h.2.2.2
  have hj : j < 12000 := by omega
  have hin : vp_in (nI j) 12000 := vp_in_nI hj (by omega)
  have ec : (nI j).toNatClampNeg = j := nI_clamp (by omega)
  have e78 : T.1 78 (nI j).toNatClampNeg = 13 := by rw [ec]; exact ho
  refine rg_O (by (try simp only [mPl, mRf, mF, mMu, mPb, mSy, mT, mB2, mBi, mSe]); repeat first | exact KMf_rfl | refine KMf_ite ?_ ?_ | refine KMf_zi (by omega) ?_) hg h (by rw [ho]; decide) (e_Mo_operandSort (b_Mo_operandSort_0 hin (fun z => absurd (e78.symm.trans z) (by decide)) (fun z => absurd (e78.symm.trans z) (by decide)) (fun z => absurd (e78.symm.trans z) (by decide)) (fun z => absurd (e78.symm.trans z) (by decide)) (fun z => absurd (e78.symm.trans z) (by decide)) (fun z => absurd (e78.symm.trans z) (by decide)) (fun z => absurd (e78.symm.trans z) (by decide)) (fun z => absurd (e78.symm.trans z) (by decide)) (fun z => absurd (e78.symm.trans z) (by decide)) (fun z => absurd (e78.symm.trans z) (by decide)) (fun z => absurd (e78.symm.trans z) (by decide)) (fun _ => ?_) (fun z => absurd (e78.symm.trans z) (by decide)) (fun z => absurd (e78.symm.trans z) (by decide)) (fun z => absurd (e78.symm.trans z) (by decide)) (fun _ _ _ _ _ _ _ _ _ _ _ q _ _ _ => absurd e78 q)))
  exact b_Mo_operandSort_569 hg (wm_bin hg h7 hj h43 hm) (fun A eA => b_Mo_operandSort_574 (b_Mo_operandSort_600 ⟨rfl, eA⟩))
theorem r_14 (hg : ip_gk (lg_tbl, vwCl, Gr)) (h : RIx T j mz) (ho : T.1 78 j = 14) (h43 : T.1 73 43 = nI (m + 3)) (hm : m + 2 < 4200) : RG l Gr n w d T j (if T.1 98 m = 1 ∧ T.1 98 (m + 1) = T.1 98 (m + 2) then mSe T m j else mF T 5 (T.1 81 j)) (j + 1) := by
  have hmz := h.2.1
  have h7 := h.2.2.1
  have hlt := h.2.2.2
  have hj : j < 12000 := by omega
  have hin : vp_in (nI j) 12000 := vp_in_nI hj (by omega)
  have ec : (nI j).toNatClampNeg = j := nI_clamp (by omega)
  have e78 : T.1 78 (nI j).toNatClampNeg = 14 := by rw [ec]; exact ho
  refine rg_O (by (try simp only [mPl, mRf, mF, mMu, mPb, mSy, mT, mB2, mBi, mSe]); repeat first | exact KMf_rfl | refine KMf_ite ?_ ?_ | refine KMf_zi (by omega) ?_) hg h (by rw [ho]; decide) (e_Mo_operandSort (b_Mo_operandSort_0 hin (fun z => absurd (e78.symm.trans z) (by decide)) (fun z => absurd (e78.symm.trans z) (by decide)) (fun z => absurd (e78.symm.trans z) (by decide)) (fun z => absurd (e78.symm.trans z) (by decide)) (fun z => absurd (e78.symm.trans z) (by decide)) (fun z => absurd (e78.symm.trans z) (by decide)) (fun z => absurd (e78.symm.trans z) (by decide)) (fun z => absurd (e78.symm.trans z) (by decide)) (fun z => absurd (e78.symm.trans z) (by decide)) (fun z => absurd (e78.symm.trans z) (by decide)) (fun z => absurd (e78.symm.trans z) (by decide)) (fun z => absurd (e78.symm.trans z) (by decide)) (fun _ => ?_) (fun z => absurd (e78.symm.trans z) (by decide)) (fun z => absurd (e78.symm.trans z) (by decide)) (fun _ _ _ _ _ _ _ _ _ _ _ _ q _ _ => absurd e78 q)))
  exact b_Mo_operandSort_577 hg (wm_sel hg h7 hj h43 hm) (fun A eA => b_Mo_operandSort_582 (b_Mo_operandSort_600 ⟨rfl, eA⟩))
end MKD
