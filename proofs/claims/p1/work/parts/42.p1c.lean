/-! compile() on a new object: the class -/
def pP (S : zS) : Prop := zfr z0 S ∧ S.1 0 4 = 0 ∧ S.1 3 4 = 0 ∧ S.1 3 5 = 0
theorem pP_I {S : zS} (h : pP S) {c : Nat} (hc : c < 73) (h0 : c ≠ 0) (h3 : c ≠ 3) (f : Nat → Int32) : pP (zI S c f) := ⟨zfr_I h.1 hc f, (zI_c (Ne.symm h0)).trans h.2.1, (zI_c (Ne.symm h3)).trans h.2.2.1, (zI_c (Ne.symm h3)).trans h.2.2.2⟩
theorem pP_i {S : zS} (h : pP S) {c : Nat} (hc : c < 73) (h0 : c ≠ 0) (h3 : c ≠ 3) (k : Nat) (v : Int32) : pP (zi S c k v) := pP_I h hc h0 h3 _
section P1C
variable {l : Launch} {Gr : zG} {n w : Nat} {d : Nat} {S : zS}
theorem p_Names_clear (h : pP S) {x : Int32} : zMv l Gr (zc n w) 168 M_Names_clear d [.ref 40, .int x] S pP :=
  e_Names_clear (b_Names_clear_0 ⟨rfl, pP_i (pP_i (pP_i (pP_i h (by decide) (by decide) (by decide) _ _) (by decide) (by decide) (by decide) _ _) (by decide) (by decide) (by decide) _ _) (by decide) (by decide) (by decide) _ _⟩)
theorem p_Inputs_clear (hg : ip_gk (lg_tbl, vwCl, Gr)) (hn : n ≤ 16) (h : pP S) : zMv l Gr (zc n w) 168 M_Inputs_clear (d + 1) [.ref 49] S pP :=
  e_Inputs_clear (b_Inputs_clear_0 hg (m_fill_55 (by omega) 0) (fun S' e => by
    subst e
    exact b_Inputs_clear_18 ⟨rfl, pP_I (pP_i (pP_i h (by decide) (by decide) (by decide) _ _) (by decide) (by decide) (by decide) _ _) (by decide) (by decide) (by decide) _⟩))
theorem p_skipBlanks (h : S.1 38 1 ≤ S.1 38 4) : zMv l Gr (zc n w) 168 M_Words_skipBlanks d [.ref 70] S (fun S' => S' = S) :=
  e_Words_skipBlanks (b_Words_skipBlanks_0 (b_Words_skipBlanks_2 (fun _ => b_Words_skipBlanks_81 ⟨rfl, rfl⟩) (fun q => absurd h q)))
theorem p_advance (hg : ip_gk (lg_tbl, vwCl, Gr)) (h : pP S) (h1 : S.1 38 1 = 0) (h4 : S.1 38 4 = 0) : zMv l Gr (zc n w) 168 M_Words_advance (d + 1) [.ref 70] S (fun S' => pP S' ∧ S'.1 38 2 = 0) :=
  e_Words_advance (b_Words_advance_0 hg (p_skipBlanks (by rw [h1, h4]; decide)) (fun S' e => by
    subst e
    exact b_Words_advance_4 (fun q => by
      exfalso
      rw [h4] at q
      have q2 : (0 : Int32) < S'.1 38 1 := q
      rw [h1] at q2
      exact absurd q2 (by decide)) (fun _ => b_Words_advance_23 ⟨rfl, pP_i (pP_i h (by decide) (by decide) (by decide) _ _) (by decide) (by decide) (by decide) _ _, zi_v⟩)))
theorem p_begin (hg : ip_gk (lg_tbl, vwCl, Gr)) (h : pP S) : zMv l Gr (zc n w) 168 M_Words_begin (d + 2) [.ref 70, .int 0] S (fun S' => pP S' ∧ S'.1 38 2 = 0) :=
  e_Words_begin (b_Words_begin_0 hg (p_advance hg (pP_i (pP_i h (by decide) (by decide) (by decide) _ _) (by decide) (by decide) (by decide) _ _) (by simp [zi_get]) (by simp [zi_get])) (fun S' q => b_Words_begin_14 ⟨rfl, q⟩))
theorem p_readProgram (hg : ip_gk (lg_tbl, vwCl, Gr)) (h : pP S) : zMv l Gr (zc n w) 168 M_Reader_readProgram (d + 3) [.ref 66, .int 0] S pP :=
  e_Reader_readProgram (b_Reader_readProgram_0 hg (p_begin hg (pP_i (pP_i h (by decide) (by decide) (by decide) _ _) (by decide) (by decide) (by decide) _ _)) (fun S' q => b_Reader_readProgram_18 (b_Reader_readProgram_20 (fun z => absurd z (by decide)) (fun _ => b_Reader_readProgram_25 (fun z => absurd q.1.2.2.2 z) (fun _ => b_Reader_readProgram_35 (fun _ => b_Reader_readProgram_120 ⟨rfl, q.1⟩) (fun z => absurd q.2 z))))))
theorem p_check (h : pP S) : zMv l Gr (zc n w) 168 M_Sorts_check (d + 1) [.ref 71] S pP := by
  have h' : pP (zi (zi (zi (zi S 39 3 0) 39 5 0) 39 9 0) 39 10 0) := pP_i (pP_i (pP_i (pP_i h (by decide) (by decide) (by decide) _ _) (by decide) (by decide) (by decide) _ _) (by decide) (by decide) (by decide) _ _) (by decide) (by decide) (by decide) _ _
  exact e_Sorts_check (b_Sorts_check_0 (b_Sorts_check_22 (fun _ => b_Sorts_check_110 ⟨rfl, h'⟩) (fun q => absurd (by rw [h'.2.2.1]; decide) q)))
theorem p_Circuit_clear (h : pP S) {x : Int32} : zMv l Gr (zc n w) 168 M_Circuit_clear d [.ref 56, .int x] S (fun S' => pP S' ∧ S'.1 24 4 = 0) :=
  e_Circuit_clear (b_Circuit_clear_0 ⟨rfl, pP_i (pP_i (pP_i (pP_i (pP_i (pP_i (pP_i h (by decide) (by decide) (by decide) _ _) (by decide) (by decide) (by decide) _ _) (by decide) (by decide) (by decide) _ _) (by decide) (by decide) (by decide) _ _) (by decide) (by decide) (by decide) _ _) (by decide) (by decide) (by decide) _ _) (by decide) (by decide) (by decide) _ _, by simp [zi_get]⟩)
theorem p_build (hg : ip_gk (lg_tbl, vwCl, Gr)) (hw : w ≤ 32) (h : pP S) (h4 : S.1 24 4 = 0) : zMv l Gr (zc n w) 168 M_Builder_build (d + 1) [.ref 77] S (fun S' => pP S' ∧ S'.1 24 4 = 0) := by
  refine e_Builder_build (b_Builder_build_0 hg (m_fill_90 (by omega) (-2)) (fun S' e => ?_))
  subst e
  have h1 : pP (zfill S 58 (-2) (256 * w)) := pP_I h (by decide) (by decide) (by decide) _
  have h2 : (zfill S 58 (-2) (256 * w)).1 24 4 = 0 := (zI_c (by decide)).trans h4
  generalize zfill S 58 (-2) (256 * w) = T at h1 h2
  have h3 : pP (zi (zi (zi (zi (zi T 45 8 0) 45 12 0) 45 13 0) 45 16 0) 45 18 0) := pP_i (pP_i (pP_i (pP_i (pP_i h1 (by decide) (by decide) (by decide) _ _) (by decide) (by decide) (by decide) _ _) (by decide) (by decide) (by decide) _ _) (by decide) (by decide) (by decide) _ _) (by decide) (by decide) (by decide) _ _
  exact b_Builder_build_9 (b_Builder_build_36 (fun q => absurd q (by decide)) (fun _ => b_Builder_build_42 (fun _ => b_Builder_build_189 ⟨rfl, h3, by simp [zi_get, h2]⟩) (fun q => absurd (by rw [h3.2.2.1]; simp [zi_get]) q)))
theorem pf_loop : ∀ (j i : Nat) (S : zS), i + j = 2003 → 1 ≤ i → pP S → S.1 24 4 = 0 → zW l Gr (zc n w) 168 M_Circuit_finish (d + 1) 69 [some (.ref 56), some (.int (nI i)), none] [] S (fun v S' => v = none ∧ pP S')
  | 0, i, S, h, h1, hP, h4 => b_Circuit_finish_69 (fun _ => b_Circuit_finish_101 (b_Circuit_finish_103 (fun _ => b_Circuit_finish_178 ⟨rfl, hP⟩) (fun q => absurd (by rw [h4]; decide) q))) (fun q => absurd (nI_le (a := 2003) (b := i) (by omega) (by omega)) q)
  | j + 1, i, S, h, h1, hP, h4 => b_Circuit_finish_69 (fun q => absurd q (nI_ge (a := i) (b := 2003) (by omega) (by omega))) (fun _ => b_Circuit_finish_78 (vp_in_nI (by omega) (by omega)) (by
      obtain ⟨k, rfl⟩ : ∃ k, i = k + 1 := ⟨i - 1, by omega⟩
      rw [nI_pred]
      exact vp_in_nI (by omega) (by omega)) (by
      rw [show nI i + Int32.ofInt 1 = nI (i + 1) from nI_add i 1]
      exact pf_loop j (i + 1) _ (by omega) (by omega) (pP_i hP (by decide) (by decide) (by decide) _ _) ((zi_c (by decide)).trans h4)))
theorem p_finish (hg : ip_gk (lg_tbl, vwCl, Gr)) (h : pP S) (h4 : S.1 24 4 = 0) : zMv l Gr (zc n w) 168 M_Circuit_finish (d + 1) [.ref 56] S pP := by
  refine e_Circuit_finish (b_Circuit_finish_0 hg (m_fill_62 0) (fun S' e => ?_))
  subst e
  have h1 : pP (zfill S 30 0 2003) := pP_I h (by decide) (by decide) (by decide) _
  have h2 : (zfill S 30 0 2003).1 24 4 = 0 := (zI_c (by decide)).trans h4
  generalize zfill S 30 0 2003 = T at h1 h2
  exact b_Circuit_finish_8 (b_Circuit_finish_10 (fun _ => b_Circuit_finish_67 (pf_loop 2002 1 T rfl (Nat.le_refl _) h1 h2)) (fun q => absurd (by rw [h2]; decide) q))
theorem p_compile (hg : ip_gk (lg_tbl, vwCl, Gr)) (hn : n ≤ 16) (hw : w ≤ 32) : zMi l Gr (zc n w) 168 M_H_compile (d + 4) [.ref 32] z0 (fun v S' => v = 0 ∧ zfr z0 S') := by
  have h0 : pP (zi (zi (zi (zi (zi (zi z0 0 14 0) 0 15 0) 0 16 0) 3 4 0) 3 5 0) 3 6 (-1)) := ⟨zfr_i (zfr_i (zfr_i (zfr_i (zfr_i (zfr_i zfr_rfl (by decide) _ _) (by decide) _ _) (by decide) _ _) (by decide) _ _) (by decide) _ _) (by decide) _ _, by simp [zi_get]; rfl, by simp [zi_get], by simp [zi_get]⟩
  refine e_H_compile (b_H_compile_0 hg (e_Code_clear (R := pP) (b_Code_clear_0 ⟨rfl, h0⟩)) (fun S1 k1 => b_H_compile_22 hg (p_Names_clear k1) (fun S2 k2 => b_H_compile_33 hg (p_Inputs_clear hg hn k2) (fun S3 k3 => b_H_compile_40 hg (R := pP) ?_ (fun S4 k4 => b_H_compile_51 (fun q => absurd k4.2.2.2 q) (fun _ => b_H_compile_61 hg (p_check k4) (fun S5 k5 => b_H_compile_68 (fun q => absurd k5.2.2.2 q) (fun _ => b_H_compile_78 hg (p_Circuit_clear k5) (fun S6 k6 => b_H_compile_92 hg (p_build hg hw k6.1 k6.2) (fun S7 k7 => ?_))))))))))
  · rw [k3.2.1]
    exact p_readProgram hg k3
  · have h8 : pP (zi S7 0 4 0) := ⟨zfr_i k7.1.1 (by decide) _ _, zi_v, (zi_c (by decide)).trans k7.1.2.2.1, (zi_c (by decide)).trans k7.1.2.2.2⟩
    exact b_H_compile_99 (fun q => absurd k7.1.2.2.2 q) (fun _ => b_H_compile_114 hg (p_finish hg h8 ((zi_c (by decide)).trans k7.2)) (fun S8 k8 => b_H_compile_121 (b_H_compile_136 ⟨_, rfl, (zi_c (by decide)).trans k8.2.2.2, zfr_i k8.1 (by decide) _ _⟩)))
/-! the reference -/
def qP (S : zS) : Prop := S.1 73 5 = 0 ∧ S.1 73 7 = 0 ∧ S.1 73 13 = 0
theorem q_look0 (h5 : S.1 73 5 = 0) (h6 : S.1 73 6 = 0) : zMi l Gr (zc n w) 168 M_Mo_look0 d [.ref 105, .int 0] S (fun v S' => v = -1 ∧ S' = S) :=
  e_Mo_look0 (b_Mo_look0_0 (fun _ => b_Mo_look0_27 (b_Mo_look0_28 ⟨_, rfl, rfl, rfl⟩)) (fun q => absurd (by rw [h5, h6]; decide) q))
theorem q_gap (hg : ip_gk (lg_tbl, vwCl, Gr)) (h5 : S.1 73 5 = 0) (h6 : S.1 73 6 = 0) : zMv l Gr (zc n w) 168 M_Mo_gap (d + 1) [.ref 105] S (fun S' => S' = S) :=
  e_Mo_gap (b_Mo_gap_0 (b_Mo_gap_2 (fun q => absurd q (by decide)) (fun _ => b_Mo_gap_6 hg (q_look0 h5 h6) (fun v S' h => by
    obtain ⟨rfl, rfl⟩ := h
    exact b_Mo_gap_11 (fun q => absurd q (by decide)) (fun _ => b_Mo_gap_18 (fun q => absurd q (by decide)) (fun _ => b_Mo_gap_24 (fun q => absurd q (by decide)) (fun _ => b_Mo_gap_30 (fun _ => b_Mo_gap_40 (b_Mo_gap_41 (fun _ => b_Mo_gap_100 (fun _ => b_Mo_gap_114 (b_Mo_gap_2 (fun _ => b_Mo_gap_117 ⟨rfl, rfl⟩) (fun q => absurd rfl q))) (fun q => absurd rfl q)) (fun q => absurd q (by decide)))) (fun q => absurd q (by decide)))))))))
theorem q_program (hg : ip_gk (lg_tbl, vwCl, Gr)) (h5 : S.1 73 5 = 0) (h7 : S.1 73 7 = 0) : zMv l Gr (zc n w) 168 M_Mo_program (d + 2) [.ref 105] S qP := by
  refine e_Mo_program (b_Mo_program_0 ?_)
  have a5 : (zi (zi (zi (zi (zi (zi (zi (zi S 73 6 0) 73 13 0) 73 9 0) 73 26 0) 73 20 0) 73 19 0) 73 29 0) 73 30 0).1 73 5 = 0 := by simp [zi_get, h5]
  have a7 : (zi (zi (zi (zi (zi (zi (zi (zi S 73 6 0) 73 13 0) 73 9 0) 73 26 0) 73 20 0) 73 19 0) 73 29 0) 73 30 0).1 73 7 = 0 := by simp [zi_get, h7]
  have a6 : (zi (zi (zi (zi (zi (zi (zi (zi S 73 6 0) 73 13 0) 73 9 0) 73 26 0) 73 20 0) 73 19 0) 73 29 0) 73 30 0).1 73 6 = 0 := by simp [zi_get]
  have a13 : (zi (zi (zi (zi (zi (zi (zi (zi S 73 6 0) 73 13 0) 73 9 0) 73 26 0) 73 20 0) 73 19 0) 73 29 0) 73 30 0).1 73 13 = 0 := by simp [zi_get]
  have a26 : (zi (zi (zi (zi (zi (zi (zi (zi S 73 6 0) 73 13 0) 73 9 0) 73 26 0) 73 20 0) 73 19 0) 73 29 0) 73 30 0).1 73 26 = 0 := by simp [zi_get]
  generalize zi (zi (zi (zi (zi (zi (zi (zi S 73 6 0) 73 13 0) 73 9 0) 73 26 0) 73 20 0) 73 19 0) 73 29 0) 73 30 0 = T at a5 a7 a6 a13 a26
  exact b_Mo_program_42 (fun q => absurd q (by decide)) (fun _ => b_Mo_program_46 (fun q => absurd a7 q) (fun _ => b_Mo_program_53 hg (q_gap hg a5 a6) (fun S' e => by
    subst e
    exact b_Mo_program_57 (fun q => absurd (a6.trans a5.symm) q) (fun _ => b_Mo_program_73 (fun _ => b_Mo_program_89 (b_Mo_program_251 (b_Mo_program_42 (fun _ => b_Mo_program_254 ⟨rfl, a5, a7, a13⟩) (fun q => absurd rfl q)))) (fun q => absurd (by rw [a26]; decide) q)))))
theorem q_sorts (h : qP S) : zMv l Gr (zc n w) 168 M_Mo_sorts (d + 1) [.ref 105] S qP := by
  have h' : qP (zi (zi (zi (zi (zi (zi (zi S 73 34 0) 73 43 0) 73 49 0) 73 56 0) 73 60 0) 73 47 0) 73 59 0) := ⟨by simp [zi_get, h.1], by simp [zi_get, h.2.1], by simp [zi_get, h.2.2]⟩
  exact e_Mo_sorts (b_Mo_sorts_0 (b_Mo_sorts_37 (fun _ => b_Mo_sorts_82 ⟨rfl, h'⟩) (fun q => absurd (by rw [h'.2.2]; decide) q)))
def qB (S : zS) : Prop := qP S ∧ S.1 73 68 = 0 ∧ S.1 73 69 = 0 ∧ S.1 73 75 = 0
theorem q_inputsOfAll (h : qP S) : zMv l Gr (zc n w) 168 M_Mo_inputsOfAll (d + 1) [.ref 105] S (fun S' => qP S' ∧ S'.1 73 75 = 0) := by
  have h' : qP (zi (zi S 73 75 0) 73 65 0) := ⟨by simp [zi_get, h.1], by simp [zi_get, h.2.1], by simp [zi_get, h.2.2]⟩
  exact e_Mo_inputsOfAll (b_Mo_inputsOfAll_0 (b_Mo_inputsOfAll_12 (fun _ => b_Mo_inputsOfAll_159 ⟨rfl, h', by simp [zi_get]⟩) (fun q => absurd (by rw [h'.2.2]; decide) q)))
theorem q_build (hg : ip_gk (lg_tbl, vwCl, Gr)) (h : qP S) : zMv l Gr (zc n w) 168 M_Mo_build (d + 2) [.ref 105] S qB := by
  refine e_Mo_build (b_Mo_build_0 hg (q_inputsOfAll h) (fun S1 k1 => b_Mo_build_4 ?_))
  have h' : qB (zi (zi (zi (zi (zi (zi (zi (zi (zi (zi S1 73 66 0) 73 67 0) 73 68 0) 73 69 0) 73 70 0) 73 94 0) 73 97 0) 73 101 0) 73 110 0) 73 85 0) := ⟨⟨by simp [zi_get, k1.1.1], by simp [zi_get, k1.1.2.1], by simp [zi_get, k1.1.2.2]⟩, by simp [zi_get], by simp [zi_get], by simp [zi_get, k1.2]⟩
  exact b_Mo_build_56 (fun _ => b_Mo_build_99 ⟨rfl, h'⟩) (fun q => absurd (by rw [h'.1.2.2]; decide) q)
theorem q_levels (h : qB S) : zMv l Gr (zc n w) 168 M_Mo_levels d [.ref 105] S qB :=
  e_Mo_levels (b_Mo_levels_0 (b_Mo_levels_4 (fun _ => b_Mo_levels_71 (by rw [h.2.1]; unfold vp_in; decide) ⟨rfl, ⟨(zi_c (by decide)).trans h.1.1, (zi_c (by decide)).trans h.1.2.1, (zi_c (by decide)).trans h.1.2.2⟩, (zi_c (by decide)).trans h.2.1, (zi_c (by decide)).trans h.2.2.1, (zi_c (by decide)).trans h.2.2.2⟩) (fun q => absurd (by rw [h.2.1]; decide) q)))
theorem qc_loop (hn : n ≤ 16) : ∀ (j i : Nat) (S : zS), i + j = n → qB S → zW l Gr (zc n w) 168 M_Mo_compile (d + 1) 110 [some (.ref 105), some (.int (nI i))] [] S (fun v S' => ∃ x, v = some (.int x) ∧ x = 0)
  | 0, i, S, h, hB => b_Mo_compile_110 (fun _ => b_Mo_compile_131 (b_Mo_compile_133 (fun _ => b_Mo_compile_167 ⟨_, rfl, hB.1.2.1⟩) (fun q => absurd (by rw [hB.2.2.2]; decide) q))) (fun q => absurd (nI_le (a := n) (b := i) (by omega) (by omega)) q)
  | j + 1, i, S, h, hB => b_Mo_compile_110 (fun q => absurd q (nI_ge (a := i) (b := n) (by omega) (by omega))) (fun _ => b_Mo_compile_118 (vp_in_nI (by omega) (by omega)) (by
      rw [show nI i + Int32.ofInt 1 = nI (i + 1) from nI_add i 1]
      exact qc_loop hn j (i + 1) _ (by omega) ⟨⟨(zi_c (by decide)).trans hB.1.1, (zi_c (by decide)).trans hB.1.2.1, (zi_c (by decide)).trans hB.1.2.2⟩, (zi_c (by decide)).trans hB.2.1, (zi_c (by decide)).trans hB.2.2.1, (zi_c (by decide)).trans hB.2.2.2⟩))
theorem q_compile (hg : ip_gk (lg_tbl, vwCl, Gr)) (hn : n ≤ 16) (hf : zfr z0 S) : zMi l Gr (zc n w) 168 M_Mo_compile (d + 3) [.ref 105] S (fun v _ => v = 0) := by
  have h5 : S.1 73 5 = 0 := zf1 hf (by omega) 5
  refine e_Mo_compile (b_Mo_compile_0 hg (e_Mo_forget (R := fun T => T.1 73 5 = 0 ∧ T.1 73 7 = 0) (b_Mo_forget_0 ⟨rfl, by simp [zi_get, h5], by simp [zi_get]⟩)) (fun S1 k1 => b_Mo_compile_14 hg (q_program hg k1.1 k1.2) (fun S2 k2 => b_Mo_compile_18 (fun q => absurd k2.2.1 q) (fun _ => b_Mo_compile_25 hg (q_sorts k2) (fun S3 k3 => b_Mo_compile_29 (fun q => absurd k3.2.1 q) (fun _ => b_Mo_compile_36 hg (q_build hg k3) (fun S4 k4 => b_Mo_compile_40 (fun q => absurd k4.1.2.1 q) (fun _ => b_Mo_compile_48 (b_Mo_compile_53 rfl (fun q => absurd q (by decide)) (fun _ => ?_))))))))))
  have h' : qB (zi (zi S4 73 83 1) 73 5 0) := ⟨⟨by simp [zi_get], by simp [zi_get, k4.1.2.1], by simp [zi_get, k4.1.2.2]⟩, by simp [zi_get, k4.2.1], by simp [zi_get, k4.2.2.1], by simp [zi_get, k4.2.2.2]⟩
  refine b_Mo_compile_68 hg (q_levels h') (fun S5 k5 => b_Mo_compile_72 ?_)
  have h6 : qB (zi S5 73 145 0) := ⟨⟨by simp [zi_get, k5.1.1], by simp [zi_get, k5.1.2.1], by simp [zi_get, k5.1.2.2]⟩, by simp [zi_get, k5.2.1], by simp [zi_get, k5.2.2.1], by simp [zi_get, k5.2.2.2]⟩
  exact b_Mo_compile_79 (fun _ => b_Mo_compile_108 (qc_loop hn n 0 _ (by omega) h6)) (fun q => absurd (by rw [h6.2.2.1]; decide) q)
end P1C
