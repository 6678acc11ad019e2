/-! the turns of all calls but truth() -/
/-- what deal() changes -/
def dlE (c k : Nat) : Prop := (c = 0 ∧ (k = 15 ∨ k = 16)) ∨ c = 22 ∨ (59 ≤ c ∧ c ≤ 64) ∨ (c = 65 ∧ (10 ≤ k ∧ k ≤ 12)) ∨ (66 ≤ c ∧ c ≤ 71) ∨ (c = 73 ∧ ((119 ≤ k ∧ k ≤ 124) ∨ k = 131 ∨ k = 139 ∨ k = 140)) ∨ (151 ≤ c ∧ c ≤ 154) ∨ (157 ≤ c ∧ c ≤ 166)
section TRN
variable {l : Launch} {Gr : zG} {n w d j q Lx : Nat} {xs : Nat → Int32} {S S' : zS} {XT : zS → Prop}
theorem al_gv {k m : Nat} (h : iAl n w S) (hB : iBt n w (gvS S k m (gv0 S) (gv1 S))) : iAl n w (gvS S k m (gv0 S) (gv1 S)) := by
  obtain ⟨h1, h2, h3, h4, h5, h6⟩ := h
  have f : ∀ c i, ¬ (c = 21 ∧ i = k) → ¬ (c = 0 ∧ i = 16) → ¬ (c = 73 ∧ i = 119) → (gvS S k m (gv0 S) (gv1 S)).1 c i = S.1 c i := fun c i q1 q2 q3 => gvS_n q1 q2 q3
  have f2 : ∀ a, (gvS S k m (gv0 S) (gv1 S)).2 119 a = S.2 119 a := fun a => by
    unfold gvS
    show (zj (zi (zi S 21 k (nI m)) 0 16 (gv0 S)) 118 k (lN m)).2 119 a = _
    rw [zj_c (by decide)]
    rfl
  have fd : ∀ c i, dlR c i → (gvS S k m (gv0 S) (gv1 S)).1 c i = S.1 c i := fun c i z => by
    unfold dlR at z
    exact f c i (by omega) (by omega) (by omega)
  refine ⟨iRT_fr h1 (fun c i z => f c i (by omega) (by omega) (by omega)), iDR_fr h2 (fun c i z => f c i (by omega) (by omega) (by omega)), hB, ?_, by rw [f 3 5 (by omega) (by omega) (by omega), f 73 7 (by omega) (by omega) (by omega)]; exact h5, by rw [f 3 5 (by omega) (by omega) (by omega), f 3 6 (by omega) (by omega) (by omega), f 73 8 (by omega) (by omega) (by omega)]; exact h6⟩
  rcases h4 with ⟨a1, a2, a3, a4⟩ | ⟨a1, a2, a3, a4, a5, a6, a7⟩
  · exact Or.inl ⟨by rw [fd 0 15 (by unfold dlR; omega)]; exact a1, by rw [fd 73 124 (by unfold dlR; omega)]; exact a2, by rw [fd 73 139 (by unfold dlR; omega)]; exact a3, by rw [fd 73 140 (by unfold dlR; omega)]; exact a4⟩
  · refine Or.inr ⟨by rw [fd 0 15 (by unfold dlR; omega)]; exact a1, by rw [fd 73 124 (by unfold dlR; omega)]; exact a2, by rw [fd 0 14 (by unfold dlR; omega)]; exact a3, by rw [fd 73 83 (by unfold dlR; omega)]; exact a4, ?_, iPo_fr a6 fd, iSh_fr a7 (fun c i z => f c i (by omega) (by omega) (by omega)) f2⟩
    rcases hB with ⟨b1, -⟩ | ⟨-, -, b⟩
    · rw [fd 0 14 (by unfold dlR; omega), a3] at b1
      exact absurd b1 (by decide)
    · exact b
theorem al_dl (h : iAl n w S) (h14 : S.1 0 14 = 1) (h83 : S.1 73 83 = 1) (hC : iCk n w S) (hD : iDR S') (hP : iPo n S') (hS : iSh S') (h15 : S'.1 0 15 = 1) (h124 : S'.1 73 124 = 1) (hf : ∀ c k, ¬ (c = 0 ∧ (k = 15 ∨ k = 16)) → ¬ c = 22 → ¬ (59 ≤ c ∧ c ≤ 64) → ¬ (c = 65 ∧ (10 ≤ k ∧ k ≤ 12)) → ¬ (66 ≤ c ∧ c ≤ 71) → ¬ (c = 73 ∧ ((119 ≤ k ∧ k ≤ 124) ∨ k = 131 ∨ k = 139 ∨ k = 140)) → ¬ (151 ≤ c ∧ c ≤ 154) → ¬ (157 ≤ c ∧ c ≤ 166) → S'.1 c k = S.1 c k) (hf2 : ∀ c k, ¬ c = 119 → S'.2 c k = S.2 c k) : iAl n w S' := by
  obtain ⟨h1, h2, h3, h4, h5, h6⟩ := h
  have f : ∀ c k, ¬ dlE c k → S'.1 c k = S.1 c k := fun c k z => by
    unfold dlE at z
    exact hf c k (by omega) (by omega) (by omega) (by omega) (by omega) (by omega) (by omega) (by omega)
  have ck : iCk n w S' := iCk_fr hC (fun c k z => f c k (by unfold dlE; omega)) (fun a bt _ _ z => by rw [f 21 a (by unfold dlE; omega), hf2 118 a (by omega)]; exact z)
  have e14 : S'.1 0 14 = 1 := by rw [f 0 14 (by unfold dlE; omega)]; exact h14
  have e83 : S'.1 73 83 = 1 := by rw [f 73 83 (by unfold dlE; omega)]; exact h83
  exact ⟨iRT_fr h1 (fun c k z => f c k (by unfold dlE; omega)), hD, Or.inr ⟨e14, e83, ck⟩, Or.inr ⟨h15, h124, e14, e83, ck, hP, hS⟩, by rw [f 3 5 (by unfold dlE; omega), f 73 7 (by unfold dlE; omega)]; exact h5, by rw [f 3 5 (by unfold dlE; omega), f 3 6 (by unfold dlE; omega), f 73 8 (by unfold dlE; omega)]; exact h6⟩
/-- truth's memo may be any XT that the calls keep -/
def xtC (l : Launch) (Gr : zG) (n w d : Nat) (XT : zS → Prop) : Prop := (∀ S S', iAl n w S → XT S → iAl n w S' → (∀ c k, ¬ frE c k → S'.1 c k = S.1 c k) → (∀ c k, S'.2 c k = S.2 c k) → XT S') ∧ (∀ S k m, iAl n w S → XT S → S.1 0 14 = 1 → iAl n w (gvS S k m (gv0 S) (gv1 S)) → XT (gvS S k m (gv0 S) (gv1 S))) ∧ (∀ S S', iAl n w S → XT S → S.1 0 14 = 1 → iAl n w S' → S'.1 0 15 = 1 → S'.1 0 16 = 0 → S'.1 73 119 = 0 → (∀ c k, ¬ dlE c k → S'.1 c k = S.1 c k) → (∀ c k, ¬ c = 119 → S'.2 c k = S.2 c k) → XT S') ∧ True ∧ ∀ S x, iAl n w S → XT S → ∃ (v : Int64) (S1 : zS), ip_RnM l (lg_tbl, vwCl, Gr) M_H_truth d [.ref 32, .int x] (zP (zc n w) 168 S) (some (.long v), zP (zc n w) 168 S1) ∧ ∃ S2 : zS, ip_RnM l (lg_tbl, vwCl, Gr) M_Mo_truth d [.ref 105, .int x] (zP (zc n w) 168 S1) (some (.long v), zP (zc n w) 168 S2) ∧ iAl n w S2 ∧ XT S2
theorem t_look (hg : ip_gk (lg_tbl, vwCl, Gr)) (hX : ∀ U : State, ip_X (lg_tbl, vwCl, Gr) U → va_X (ip_O (lg_tbl, vwCl, Gr) 0) Lx xs U U.heap) (hb : ip_O (lg_tbl, vwCl, Gr) 0 < ip_B (lg_tbl, vwCl, Gr)) (hL : Lx ≤ 100000) (hj : j + 6 ≤ Lx) (hn : 2 ≤ n ∧ n ≤ 16) (hw : 1 ≤ w ∧ w ≤ 32) (hk : xs j &&& 31 = 3) (hI : iAl n w S ∧ XT S) : lwT l Gr n w (q + 302) j (xs j &&& 31) (fun X => iAl n w X ∧ XT X) S := by
  have hr : roI l Gr n w (q + 302) M_H_look M_Mo_look [.int (xs (j + 1))] S := ro_look hg hn.2 hI.1.2.2.1 (iCt_d hn.2 hI.1.2.2.2.1) (iLk_d hI.1)
  obtain ⟨v, c1, c2⟩ := hr
  obtain ⟨f0, ha⟩ := zw_a0 n w S
  obtain ⟨f1, hm⟩ := zw_m0 n w S
  exact ⟨S, hI, fun r hr => lw_sw3 hk (lw_3 hg hX hb (by omega) hj ha hm c1 c2 hr)⟩
theorem t_gate (hg : ip_gk (lg_tbl, vwCl, Gr)) (hX : ∀ U : State, ip_X (lg_tbl, vwCl, Gr) U → va_X (ip_O (lg_tbl, vwCl, Gr) 0) Lx xs U U.heap) (hb : ip_O (lg_tbl, vwCl, Gr) 0 < ip_B (lg_tbl, vwCl, Gr)) (hL : Lx ≤ 100000) (hj : j + 6 ≤ Lx) (hn : 2 ≤ n ∧ n ≤ 16) (hw : 1 ≤ w ∧ w ≤ 32) (hk : xs j &&& 31 = 4) (hI : iAl n w S ∧ XT S) : lwT l Gr n w (q + 302) j (xs j &&& 31) (fun X => iAl n w X ∧ XT X) S := by
  have hr : roI l Gr n w (q + 302) M_H_gate M_Mo_gate [.int (xs (j + 1)), .int (xs (j + 2))] S := ro_gate hI.1.2.2.1
  obtain ⟨v, c1, c2⟩ := hr
  obtain ⟨f0, ha⟩ := zw_a0 n w S
  obtain ⟨f1, hm⟩ := zw_m0 n w S
  exact ⟨S, hI, fun r hr => lw_sw4 hk (lw_4 hg hX hb (by omega) hj ha hm c1 c2 hr)⟩
theorem t_literal (hg : ip_gk (lg_tbl, vwCl, Gr)) (hX : ∀ U : State, ip_X (lg_tbl, vwCl, Gr) U → va_X (ip_O (lg_tbl, vwCl, Gr) 0) Lx xs U U.heap) (hb : ip_O (lg_tbl, vwCl, Gr) 0 < ip_B (lg_tbl, vwCl, Gr)) (hL : Lx ≤ 100000) (hj : j + 6 ≤ Lx) (hn : 2 ≤ n ∧ n ≤ 16) (hw : 1 ≤ w ∧ w ≤ 32) (hk : xs j &&& 31 = 5) (hI : iAl n w S ∧ XT S) : lwT l Gr n w (q + 302) j (xs j &&& 31) (fun X => iAl n w X ∧ XT X) S := by
  have hr : roI l Gr n w (q + 302) M_H_literal M_Mo_literal [.int (xs (j + 1)), .int (xs (j + 2))] S := ro_literal hg hw hI.1.2.2.1
  obtain ⟨v, c1, c2⟩ := hr
  obtain ⟨f0, ha⟩ := zw_a0 n w S
  obtain ⟨f1, hm⟩ := zw_m0 n w S
  exact ⟨S, hI, fun r hr => lw_sw5 hk (lw_5 hg hX hb (by omega) hj ha hm c1 c2 hr)⟩
theorem t_input (hg : ip_gk (lg_tbl, vwCl, Gr)) (hX : ∀ U : State, ip_X (lg_tbl, vwCl, Gr) U → va_X (ip_O (lg_tbl, vwCl, Gr) 0) Lx xs U U.heap) (hb : ip_O (lg_tbl, vwCl, Gr) 0 < ip_B (lg_tbl, vwCl, Gr)) (hL : Lx ≤ 100000) (hj : j + 6 ≤ Lx) (hn : 2 ≤ n ∧ n ≤ 16) (hw : 1 ≤ w ∧ w ≤ 32) (hk : xs j &&& 31 = 6) (hI : iAl n w S ∧ XT S) : lwT l Gr n w (q + 302) j (xs j &&& 31) (fun X => iAl n w X ∧ XT X) S := by
  have hr : roL l Gr n w (q + 302) M_H_input M_Mo_input [.int (xs (j + 1)), .int (xs (j + 2))] S := ro_input hw.2 hI.1.2.2.1
  obtain ⟨v, c1, c2⟩ := hr
  obtain ⟨f0, ha⟩ := zw_a0 n w S
  obtain ⟨f1, hm⟩ := zw_m0 n w S
  exact ⟨S, hI, fun r hr => lw_sw6 hk (lw_6 hg hX hb (by omega) hj ha hm c1 c2 hr)⟩
theorem t_message (hg : ip_gk (lg_tbl, vwCl, Gr)) (hX : ∀ U : State, ip_X (lg_tbl, vwCl, Gr) U → va_X (ip_O (lg_tbl, vwCl, Gr) 0) Lx xs U U.heap) (hb : ip_O (lg_tbl, vwCl, Gr) 0 < ip_B (lg_tbl, vwCl, Gr)) (hL : Lx ≤ 100000) (hj : j + 6 ≤ Lx) (hn : 2 ≤ n ∧ n ≤ 16) (hw : 1 ≤ w ∧ w ≤ 32) (hk : xs j &&& 31 = 11) (hI : iAl n w S ∧ XT S) : lwT l Gr n w (q + 302) j (xs j &&& 31) (fun X => iAl n w X ∧ XT X) S := by
  have hr : roI l Gr n w (q + 302) M_H_message M_Mo_message [.int (xs (j + 1)), .int (xs (j + 2))] S := ro_message hg hn hw hI.1.2.2.2.1
  obtain ⟨v, c1, c2⟩ := hr
  obtain ⟨f0, ha⟩ := zw_a0 n w S
  obtain ⟨f1, hm⟩ := zw_m0 n w S
  exact ⟨S, hI, fun r hr => lw_sw11 hk (lw_11 hg hX hb (by omega) hj ha hm c1 c2 hr)⟩
theorem t_party (hg : ip_gk (lg_tbl, vwCl, Gr)) (hX : ∀ U : State, ip_X (lg_tbl, vwCl, Gr) U → va_X (ip_O (lg_tbl, vwCl, Gr) 0) Lx xs U U.heap) (hb : ip_O (lg_tbl, vwCl, Gr) 0 < ip_B (lg_tbl, vwCl, Gr)) (hL : Lx ≤ 100000) (hj : j + 6 ≤ Lx) (hn : 2 ≤ n ∧ n ≤ 16) (hw : 1 ≤ w ∧ w ≤ 32) (hk : xs j &&& 31 = 14) (hI : iAl n w S ∧ XT S) : lwT l Gr n w (q + 302) j (xs j &&& 31) (fun X => iAl n w X ∧ XT X) S := by
  have hr : roI l Gr n w (q + 302) M_H_party M_Mo_party [.int (xs (j + 1)), .int (xs (j + 2))] S := ro_party hg hn hI.1.2.2.2.1
  obtain ⟨v, c1, c2⟩ := hr
  obtain ⟨f0, ha⟩ := zw_a0 n w S
  obtain ⟨f1, hm⟩ := zw_m0 n w S
  exact ⟨S, hI, fun r hr => lw_sw14 hk (lw_14 hg hX hb (by omega) hj ha hm c1 c2 hr)⟩
theorem t_dealt (hg : ip_gk (lg_tbl, vwCl, Gr)) (hX : ∀ U : State, ip_X (lg_tbl, vwCl, Gr) U → va_X (ip_O (lg_tbl, vwCl, Gr) 0) Lx xs U U.heap) (hb : ip_O (lg_tbl, vwCl, Gr) 0 < ip_B (lg_tbl, vwCl, Gr)) (hL : Lx ≤ 100000) (hj : j + 6 ≤ Lx) (hn : 2 ≤ n ∧ n ≤ 16) (hw : 1 ≤ w ∧ w ≤ 32) (hk : xs j &&& 31 = 15) (hI : iAl n w S ∧ XT S) : lwT l Gr n w (q + 302) j (xs j &&& 31) (fun X => iAl n w X ∧ XT X) S := by
  have hr : roI l Gr n w (q + 302) M_H_dealt M_Mo_dealt [.int (xs (j + 1)), .int (xs (j + 2)), .int (xs (j + 3))] S := ro_dealt hg hn hw hI.1.2.2.2.1
  obtain ⟨v, c1, c2⟩ := hr
  obtain ⟨f0, ha⟩ := zw_a0 n w S
  obtain ⟨f1, hm⟩ := zw_m0 n w S
  exact ⟨S, hI, fun r hr => lw_sw15 hk (lw_15 hg hX hb (by omega) hj ha hm c1 c2 hr)⟩
theorem t_share (hg : ip_gk (lg_tbl, vwCl, Gr)) (hX : ∀ U : State, ip_X (lg_tbl, vwCl, Gr) U → va_X (ip_O (lg_tbl, vwCl, Gr) 0) Lx xs U U.heap) (hb : ip_O (lg_tbl, vwCl, Gr) 0 < ip_B (lg_tbl, vwCl, Gr)) (hL : Lx ≤ 100000) (hj : j + 6 ≤ Lx) (hn : 2 ≤ n ∧ n ≤ 16) (hw : 1 ≤ w ∧ w ≤ 32) (hk : xs j &&& 31 = 16) (hI : iAl n w S ∧ XT S) : lwT l Gr n w (q + 302) j (xs j &&& 31) (fun X => iAl n w X ∧ XT X) S := by
  have hr : roI l Gr n w (q + 302) M_H_share M_Mo_share [.int (xs (j + 1)), .int (xs (j + 2))] S := ro_share hg hn hw hI.1.2.2.2.1
  obtain ⟨v, c1, c2⟩ := hr
  obtain ⟨f0, ha⟩ := zw_a0 n w S
  obtain ⟨f1, hm⟩ := zw_m0 n w S
  exact ⟨S, hI, fun r hr => lw_sw16 hk (lw_16 hg hX hb (by omega) hj ha hm c1 c2 hr)⟩
theorem t_view (hg : ip_gk (lg_tbl, vwCl, Gr)) (hX : ∀ U : State, ip_X (lg_tbl, vwCl, Gr) U → va_X (ip_O (lg_tbl, vwCl, Gr) 0) Lx xs U U.heap) (hb : ip_O (lg_tbl, vwCl, Gr) 0 < ip_B (lg_tbl, vwCl, Gr)) (hL : Lx ≤ 100000) (hj : j + 6 ≤ Lx) (hn : 2 ≤ n ∧ n ≤ 16) (hw : 1 ≤ w ∧ w ≤ 32) (hk : xs j &&& 31 = 17) (hI : iAl n w S ∧ XT S) : lwT l Gr n w (q + 302) j (xs j &&& 31) (fun X => iAl n w X ∧ XT X) S := by
  have hr : roI l Gr n w (q + 302) M_H_view M_Mo_view [.int (xs (j + 1)), .int (xs (j + 2))] S := ro_view hg hn hw hI.1.2.2.2.1
  obtain ⟨v, c1, c2⟩ := hr
  obtain ⟨f0, ha⟩ := zw_a0 n w S
  obtain ⟨f1, hm⟩ := zw_m0 n w S
  exact ⟨S, hI, fun r hr => lw_sw17 hk (lw_17 hg hX hb (by omega) hj ha hm c1 c2 hr)⟩
theorem t_told (hg : ip_gk (lg_tbl, vwCl, Gr)) (hX : ∀ U : State, ip_X (lg_tbl, vwCl, Gr) U → va_X (ip_O (lg_tbl, vwCl, Gr) 0) Lx xs U U.heap) (hb : ip_O (lg_tbl, vwCl, Gr) 0 < ip_B (lg_tbl, vwCl, Gr)) (hL : Lx ≤ 100000) (hj : j + 6 ≤ Lx) (hn : 2 ≤ n ∧ n ≤ 16) (hw : 1 ≤ w ∧ w ≤ 32) (hk : xs j &&& 31 = 18) (hI : iAl n w S ∧ XT S) : lwT l Gr n w (q + 302) j (xs j &&& 31) (fun X => iAl n w X ∧ XT X) S := by
  have hr : roL l Gr n w (q + 302) M_H_told M_Mo_told [.int (xs (j + 1)), .int (xs (j + 2))] S := ro_told hg hn hw hI.1.2.2.2.1
  obtain ⟨v, c1, c2⟩ := hr
  obtain ⟨f0, ha⟩ := zw_a0 n w S
  obtain ⟨f1, hm⟩ := zw_m0 n w S
  exact ⟨S, hI, fun r hr => lw_sw18 hk (lw_18 hg hX hb (by omega) hj ha hm c1 c2 hr)⟩
theorem t_give (hg : ip_gk (lg_tbl, vwCl, Gr)) (hX : ∀ U : State, ip_X (lg_tbl, vwCl, Gr) U → va_X (ip_O (lg_tbl, vwCl, Gr) 0) Lx xs U U.heap) (hb : ip_O (lg_tbl, vwCl, Gr) 0 < ip_B (lg_tbl, vwCl, Gr)) (hL : Lx ≤ 100000) (hj : j + 6 ≤ Lx) (hn : 2 ≤ n ∧ n ≤ 16) (hw : 1 ≤ w ∧ w ≤ 32) (hT : xtC l Gr n w (q + 302) XT) (hk : xs j &&& 31 = 7) (hI : iAl n w S ∧ XT S) : lwT l Gr n w (q + 302) j (xs j &&& 31) (fun X => iAl n w X ∧ XT X) S := by
  have hr : oTw l Gr n w (q + 302) M_H_give M_Mo_give [.int (xs (j + 1)), .int (xs (j + 2))] S _ := o_give hw hI.1.2.2.1
  obtain ⟨v, S1, c1, S2, c2, hP⟩ := hr
  obtain ⟨f0, ha⟩ := zw_a0 n w S
  obtain ⟨f1, hm⟩ := zw_m0 n w S1
  refine ⟨S2, ?_, fun r hr => lw_sw7 hk (lw_7 hg hX hb (by omega) hj ha hm c1 c2 hr)⟩
  rcases hP with rfl | ⟨h14, hB, k, m, rfl⟩
  · exact hI
  · have ha' := al_gv hI.1 hB
    exact ⟨ha', hT.2.1 S k m hI.1 hI.2 h14 ha'⟩
theorem t_deliver (hg : ip_gk (lg_tbl, vwCl, Gr)) (hX : ∀ U : State, ip_X (lg_tbl, vwCl, Gr) U → va_X (ip_O (lg_tbl, vwCl, Gr) 0) Lx xs U U.heap) (hb : ip_O (lg_tbl, vwCl, Gr) 0 < ip_B (lg_tbl, vwCl, Gr)) (hL : Lx ≤ 100000) (hj : j + 6 ≤ Lx) (hn : 2 ≤ n ∧ n ≤ 16) (hw : 1 ≤ w ∧ w ≤ 32) (hT : xtC l Gr n w (q + 302) XT) (hk : xs j &&& 31 = 12) (hI : iAl n w S ∧ XT S) : lwT l Gr n w (q + 302) j (xs j &&& 31) (fun X => iAl n w X ∧ XT X) S := by
  have hr : oTw l Gr n w (q + 302) M_H_deliver M_Mo_deliver [.int (xs (j + 1))] S _ := o_deliver hg hn (by
    rcases hI.1.2.2.2.1 with ⟨a1, -, a3, -⟩ | ⟨a1, -, -, -, -, a6, -⟩
    · exact Or.inl ⟨a1, a3⟩
    · exact Or.inr ⟨a1, a6⟩)
  obtain ⟨v, S1, c1, S2, c2, hP⟩ := hr
  obtain ⟨f0, ha⟩ := zw_a0 n w S
  obtain ⟨f1, hm⟩ := zw_m0 n w S1
  refine ⟨S2, ?_, fun r hr => lw_sw12 hk (lw_12 hg hX hb (by omega) hj ha hm c1 c2 hr)⟩
  rcases hP with rfl | ⟨h15, hP, hF⟩
  · exact hI
  · have ha' := al_rs hI.1 h15 hP hF
    exact ⟨ha', hT.1 S S2 hI.1 hI.2 ha' (fun c k z => by unfold frE at z; exact hF.1 c k (by omega) (by omega) (by omega) (by omega)) hF.2⟩
theorem t_rush (hg : ip_gk (lg_tbl, vwCl, Gr)) (hX : ∀ U : State, ip_X (lg_tbl, vwCl, Gr) U → va_X (ip_O (lg_tbl, vwCl, Gr) 0) Lx xs U U.heap) (hb : ip_O (lg_tbl, vwCl, Gr) 0 < ip_B (lg_tbl, vwCl, Gr)) (hL : Lx ≤ 100000) (hj : j + 6 ≤ Lx) (hn : 2 ≤ n ∧ n ≤ 16) (hw : 1 ≤ w ∧ w ≤ 32) (hT : xtC l Gr n w (q + 302) XT) (hk : xs j &&& 31 = 13) (hI : iAl n w S ∧ XT S) : lwT l Gr n w (q + 302) j (xs j &&& 31) (fun X => iAl n w X ∧ XT X) S := by
  have hr : oTw l Gr n w (q + 302) M_H_rush M_Mo_rush [.int (xs (j + 1)), .int (xs (j + 2))] S _ := o_rush hg hn (by
    rcases hI.1.2.2.2.1 with ⟨a1, -, a3, -⟩ | ⟨a1, -, -, -, -, a6, -⟩
    · exact Or.inl ⟨a1, a3⟩
    · exact Or.inr ⟨a1, a6⟩)
  obtain ⟨v, S1, c1, S2, c2, hP⟩ := hr
  obtain ⟨f0, ha⟩ := zw_a0 n w S
  obtain ⟨f1, hm⟩ := zw_m0 n w S1
  refine ⟨S2, ?_, fun r hr => lw_sw13 hk (lw_13 hg hX hb (by omega) hj ha hm c1 c2 hr)⟩
  rcases hP with rfl | ⟨h15, hP, hF⟩
  · exact hI
  · have ha' := al_rs hI.1 h15 hP hF
    exact ⟨ha', hT.1 S S2 hI.1 hI.2 ha' (fun c k z => by unfold frE at z; exact hF.1 c k (by omega) (by omega) (by omega) (by omega)) hF.2⟩
theorem t_deal (hg : ip_gk (lg_tbl, vwCl, Gr)) (hX : ∀ U : State, ip_X (lg_tbl, vwCl, Gr) U → va_X (ip_O (lg_tbl, vwCl, Gr) 0) Lx xs U U.heap) (hb : ip_O (lg_tbl, vwCl, Gr) 0 < ip_B (lg_tbl, vwCl, Gr)) (hL : Lx ≤ 100000) (hj : j + 6 ≤ Lx) (hn : 2 ≤ n ∧ n ≤ 16) (hw : 1 ≤ w ∧ w ≤ 32) (hT : xtC l Gr n w (q + 302) XT) (hk : xs j &&& 31 = 10) (hI : iAl n w S ∧ XT S) : lwT l Gr n w (q + 302) j (xs j &&& 31) (fun X => iAl n w X ∧ XT X) S := by
  rcases hI.1.2.2.1 with ⟨h14, h83, -⟩ | ⟨h14, h83, hC⟩
  · have h1 : zMi l Gr (zc n w) 168 M_H_deal (q + 302) [.ref 32] S (fun v S' => v = 0 ∧ S' = S) := e_H_deal (b_H_deal_0 (fun y => absurd h14 y) (fun _ => b_H_deal_7 ⟨_, rfl, Or.inl rfl, rfl, rfl⟩))
    have h2 : zMi l Gr (zc n w) 168 M_Mo_deal (q + 302) [.ref 105] S (fun v S' => v = 0 ∧ S' = S) := e_Mo_deal (b_Mo_deal_0 (fun y => absurd h83 y) (fun _ => b_Mo_deal_7 ⟨_, rfl, Or.inl rfl, rfl, rfl⟩))
    have hr : roI l Gr n w (q + 302) M_H_deal M_Mo_deal [] S := ro_i h1 h2
    obtain ⟨v, c1, c2⟩ := hr
    obtain ⟨f0, ha⟩ := zw_a0 n w S
    obtain ⟨f1, hm⟩ := zw_m0 n w S
    exact ⟨S, hI, fun r hr => lw_sw10 hk (lw_10 hg hX hb (by omega) hj ha hm c1 c2 hr)⟩
  · have hr : oTw l Gr n w (q + 302) M_H_deal M_Mo_deal [] S _ := o_deal hg hn hw h14 h83 hC hI.1.2.1
    obtain ⟨v, S1, c1, S2, c2, p1, p2, p3, p4, p5, p6, p7, p8, p9⟩ := hr
    obtain ⟨f0, ha⟩ := zw_a0 n w S
    obtain ⟨f1, hm⟩ := zw_m0 n w S1
    have ha' := al_dl hI.1 h14 h83 hC p1 p2 p3 p4 p6 p8 p9
    exact ⟨S2, ⟨ha', hT.2.2.1 S S2 hI.1 hI.2 h14 ha' p4 p5 p7 (fun c k z => by unfold dlE at z; exact p8 c k (by omega) (by omega) (by omega) (by omega) (by omega) (by omega) (by omega) (by omega)) p9⟩, fun r hr => lw_sw10 hk (lw_10 hg hX hb (by omega) hj ha hm c1 c2 hr)⟩
theorem t_draws (hg : ip_gk (lg_tbl, vwCl, Gr)) (hX : ∀ U : State, ip_X (lg_tbl, vwCl, Gr) U → va_X (ip_O (lg_tbl, vwCl, Gr) 0) Lx xs U U.heap) (hb : ip_O (lg_tbl, vwCl, Gr) 0 < ip_B (lg_tbl, vwCl, Gr)) (hL : Lx ≤ 100000) (hj : j + 6 ≤ Lx) (hT : xtC l Gr n w (q + 302) XT) (hk : xs j &&& 31 = 9) (hI : iAl n w S ∧ XT S) : lwT l Gr n w (q + 302) j (xs j &&& 31) (fun X => iAl n w X ∧ XT X) S := by
  obtain ⟨v, S1, c1, S2, c2, p1, p2, p3, p4, p5⟩ := o_draws (l := l) (Gr := Gr) (n := n) (w := w) (d := q + 301) (b := (((xs (j + 1))).toInt64 <<< ((32 : Int32).toInt64 &&& 63)) ||| (((xs (j + 2))).toInt64 &&& 4294967295)) (x3 := xs (j + 3)) hg hI.1.2.1
  obtain ⟨f0, ha⟩ := zw_a0 n w S
  obtain ⟨f1, hm⟩ := zw_m0 n w S1
  have fr : ∀ c k, ¬ (c = 59 ∨ c = 60 ∨ (c = 73 ∧ k = 121) ∨ c = 150) → S2.1 c k = S.1 c k := fun c k z => by
    by_cases y : c = 73
    · rw [y]
      exact p3 k (by omega)
    · rw [p2 c (by omega) (by omega) y (by omega)]
  have ha' : iAl n w S2 := al_dr hI.1 p1 (fun c k z => fr c k (by omega)) (fun c k => by rw [p5])
  exact ⟨S2, ⟨ha', hT.1 S S2 hI.1 hI.2 ha' (fun c k z => by unfold frE at z; exact fr c k (by omega)) (fun c k => by rw [p5])⟩, fun r hr => lw_sw9 hk (lw_9 hg hX hb (by omega) hj ha hm c1 c2 hr)⟩
theorem t_seed (hg : ip_gk (lg_tbl, vwCl, Gr)) (hX : ∀ U : State, ip_X (lg_tbl, vwCl, Gr) U → va_X (ip_O (lg_tbl, vwCl, Gr) 0) Lx xs U U.heap) (hb : ip_O (lg_tbl, vwCl, Gr) 0 < ip_B (lg_tbl, vwCl, Gr)) (hL : Lx ≤ 100000) (hj : j + 6 ≤ Lx) (hT : xtC l Gr n w (q + 302) XT) (hk : xs j &&& 31 = 8) (hI : iAl n w S ∧ XT S) : lwT l Gr n w (q + 302) j (xs j &&& 31) (fun X => iAl n w X ∧ XT X) S := by
  obtain ⟨c1, c2⟩ := o_seed (l := l) (Gr := Gr) (n := n) (w := w) (d := q + 302) (S := S) (x1 := xs (j + 1))
  obtain ⟨f0, ha⟩ := zw_a0 n w S
  obtain ⟨f1, hm⟩ := zw_m0 n w (zi S 59 4 (xs (j + 1)))
  have fr : ∀ c k, ¬ (c = 59 ∧ k = 4) → ¬ (c = 73 ∧ k = 120) → (zi (zi S 59 4 (xs (j + 1))) 73 120 (xs (j + 1))).1 c k = S.1 c k := fun c k z1 z2 => by rw [zi_get, if_neg z2, zi_get, if_neg z1]
  have hD : iDR (zi (zi S 59 4 (xs (j + 1))) 73 120 (xs (j + 1))) := by
    obtain ⟨qq, f, hq, hf, a1, a0, a2, a3, a4, a5⟩ := hI.1.2.1
    exact ⟨qq, f, hq, hf, by rw [fr 59 2 (by omega) (by omega)]; exact a1, by rw [fr 59 3 (by omega) (by omega)]; exact a0, by rw [fr 73 121 (by omega) (by omega)]; exact a2, by rw [fr 73 122 (by omega) (by omega)]; exact a3, fun k hk => by rw [fr 60 k (by omega) (by omega), fr 150 _ (by omega) (by omega)]; exact a4 k hk, by rw [zi_v, zi_c (by decide), zi_v]⟩
  have ha' := al_dr hI.1 hD (fun c k z => fr c k (by omega) (by omega)) (fun _ _ => rfl)
  exact ⟨_, ⟨ha', hT.1 S _ hI.1 hI.2 ha' (fun c k z => by unfold frE at z; exact fr c k (by omega) (by omega)) (fun _ _ => rfl)⟩, fun r hr => lw_sw8 hk (lw_8 hg hX hb (by omega) hj ha hm c1 c2 hr)⟩
theorem t_feed (hg : ip_gk (lg_tbl, vwCl, Gr)) (hX : ∀ U : State, ip_X (lg_tbl, vwCl, Gr) U → va_X (ip_O (lg_tbl, vwCl, Gr) 0) Lx xs U U.heap) (hb : ip_O (lg_tbl, vwCl, Gr) 0 < ip_B (lg_tbl, vwCl, Gr)) (hL : Lx ≤ 100000) (hj : j + 6 ≤ Lx) (hT : xtC l Gr n w (q + 302) XT) (hk : xs j &&& 31 = 0) (hI : iAl n w S ∧ XT S) : lwT l Gr n w (q + 302) j (xs j &&& 31) (fun X => iAl n w X ∧ XT X) S := by
  obtain ⟨_, S1, ⟨rfl, p1⟩, c1⟩ := w_feed (l := l) (Gr := Gr) (n := n) (w := w) (d := q + 301) (S := S) (x1 := xs (j + 1)) (x2 := xs (j + 2)) (x3 := xs (j + 3)) (x4 := xs (j + 4)) (x5 := xs (j + 5)) hg
  obtain ⟨_, S2, ⟨rfl, p2⟩, c2⟩ := w_mfeed (l := l) (Gr := Gr) (n := n) (w := w) (d := q + 301) (S := S1) (x1 := xs (j + 1)) (x2 := xs (j + 2)) (x3 := xs (j + 3)) (x4 := xs (j + 4)) (x5 := xs (j + 5)) hg
  obtain ⟨f0, ha⟩ := zw_a0 n w S
  obtain ⟨f1, hm⟩ := zw_m0 n w S1
  have fr : ∀ c k, ¬ c = 1 → ¬ c = 74 → S2.1 c k = S.1 c k := fun c k z1 z2 => by rw [p2.1 c z2, p1.1 c z1]
  have f2 : ∀ c k, S2.2 c k = S.2 c k := fun c k => by rw [p2.2.1, p1.2.1]
  have ha' := al_rt hI.1 (iRT_feed hI.1.1 p1 p2) (fun c k z => fr c k (by omega) (by omega)) f2
  exact ⟨S2, ⟨ha', hT.1 S S2 hI.1 hI.2 ha' (fun c k z => by unfold frE at z; exact fr c k (by omega) (by omega)) f2⟩, fun r hr => lw_sw0 hk (lw_0 hg hX hb (by omega) hj ha hm c1 c2 hr)⟩
theorem t_ende (hg : ip_gk (lg_tbl, vwCl, Gr)) (hX : ∀ U : State, ip_X (lg_tbl, vwCl, Gr) U → va_X (ip_O (lg_tbl, vwCl, Gr) 0) Lx xs U U.heap) (hb : ip_O (lg_tbl, vwCl, Gr) 0 < ip_B (lg_tbl, vwCl, Gr)) (hL : Lx ≤ 100000) (hj : j + 6 ≤ Lx) (hT : xtC l Gr n w (q + 302) XT) (hk : xs j &&& 31 = 1) (hI : iAl n w S ∧ XT S) : lwT l Gr n w (q + 302) j (xs j &&& 31) (fun X => iAl n w X ∧ XT X) S := by
  obtain ⟨v, S1, c1, S2, c2, p1, p2, p3, p4, p5⟩ := o_end (l := l) (Gr := Gr) (n := n) (w := w) (d := q + 301) (x1 := xs (j + 1)) hg hI.1.1
  have fr : ∀ c k, ¬ ((c = 0 ∧ k = 4) ∨ c = 1 ∨ c = 2 ∨ (c = 73 ∧ k = 5) ∨ c = 74 ∨ c = 75) → S2.1 c k = S.1 c k := fun c k z => by
    by_cases y : c = 73
    · rw [y]
      exact p3 k (by omega)
    · by_cases y0 : c = 0
      · rw [y0]
        exact p4 k (by omega)
      · rw [p2 c (by omega) y (by omega) (by omega)]
  have ha' := al_rt hI.1 p1 fr (fun c k => by rw [p5])
  exact t_end hg hX hb hL hj hk ⟨v, S1, c1, S2, c2, ha', hT.1 S S2 hI.1 hI.2 ha' (fun c k z => by unfold frE at z; exact fr c k (by omega)) (fun c k => by rw [p5])⟩
theorem t_truth (hg : ip_gk (lg_tbl, vwCl, Gr)) (hX : ∀ U : State, ip_X (lg_tbl, vwCl, Gr) U → va_X (ip_O (lg_tbl, vwCl, Gr) 0) Lx xs U U.heap) (hb : ip_O (lg_tbl, vwCl, Gr) 0 < ip_B (lg_tbl, vwCl, Gr)) (hL : Lx ≤ 100000) (hj : j + 6 ≤ Lx) (hT : xtC l Gr n w (q + 302) XT) (hk : xs j &&& 31 = 19) (hI : iAl n w S ∧ XT S) : lwT l Gr n w (q + 302) j (xs j &&& 31) (fun X => iAl n w X ∧ XT X) S := by
  obtain ⟨v, S1, c1, S2, c2, hP⟩ := hT.2.2.2.2 S (xs (j + 1)) hI.1 hI.2
  obtain ⟨f0, ha⟩ := zw_a0 n w S
  obtain ⟨f1, hm⟩ := zw_m0 n w S1
  exact ⟨S2, hP, fun r hr => lw_sw19 hk (lw_19 hg hX hb (by omega) hj ha hm c1 c2 hr)⟩
/-- every turn of the law -/
theorem t_all (hg : ip_gk (lg_tbl, vwCl, Gr)) (hX : ∀ U : State, ip_X (lg_tbl, vwCl, Gr) U → va_X (ip_O (lg_tbl, vwCl, Gr) 0) Lx xs U U.heap) (hb : ip_O (lg_tbl, vwCl, Gr) 0 < ip_B (lg_tbl, vwCl, Gr)) (hL : Lx ≤ 100000) (ho : ip_old (lg_tbl, vwCl, Gr)) (hn : 2 ≤ n ∧ n ≤ 16) (hw : 1 ≤ w ∧ w ≤ 32) (hT : xtC l Gr n w (q + 302) XT) (hcm : ∀ S, iAl n w S ∧ XT S → ∃ (v : Int32) (h1 : ip_H) (S3 : zS), ip_RnM l (lg_tbl, vwCl, Gr) M_H_compile (q + 302) [.ref 32] (zP (zc n w) 168 S) (some (.int v), h1) ∧ (∃ fs, ip_h h1 105 = some (.inr (12, fs))) ∧ ip_RnM l (lg_tbl, vwCl, Gr) M_Mo_compile (q + 302) [.ref 105] h1 (some (.int v), zP (zc n w) 168 S3) ∧ (iAl n w S3 ∧ XT S3)) (k j : Nat) (S : zS) (hk : k < 20) (hj : j + 6 ≤ Lx) (e : xs j &&& 31 = nI k) (hI : iAl n w S ∧ XT S) : lwT l Gr n w (q + 302) j (xs j &&& 31) (fun X => iAl n w X ∧ XT X) S := by
  match k, hk, e with
  | 0, _, e => exact t_feed hg hX hb hL hj hT e hI
  | 1, _, e => exact t_ende hg hX hb hL hj hT e hI
  | 2, _, e => exact t_comp hg hX hb hL hj e (hcm S hI)
  | 3, _, e => exact t_look hg hX hb hL hj hn hw e hI
  | 4, _, e => exact t_gate hg hX hb hL hj hn hw e hI
  | 5, _, e => exact t_literal hg hX hb hL hj hn hw e hI
  | 6, _, e => exact t_input hg hX hb hL hj hn hw e hI
  | 7, _, e => exact t_give hg hX hb hL hj hn hw hT e hI
  | 8, _, e => exact t_seed hg hX hb hL hj hT e hI
  | 9, _, e => exact t_draws hg hX hb hL hj hT e hI
  | 10, _, e => exact t_deal hg hX hb hL hj hn hw hT e hI
  | 11, _, e => exact t_message hg hX hb hL hj hn hw e hI
  | 12, _, e => exact t_deliver hg hX hb hL hj hn hw hT e hI
  | 13, _, e => exact t_rush hg hX hb hL hj hn hw hT e hI
  | 14, _, e => exact t_party hg hX hb hL hj hn hw e hI
  | 15, _, e => exact t_dealt hg hX hb hL hj hn hw e hI
  | 16, _, e => exact t_share hg hX hb hL hj hn hw e hI
  | 17, _, e => exact t_view hg hX hb hL hj hn hw e hI
  | 18, _, e => exact t_told hg hX hb hL hj hn hw e hI
  | 19, _, e => exact t_truth hg hX hb hL hj hT e hI
  | k + 20, hk, _ => exact absurd hk (by omega)
end TRN
