/-! operators bit by bit: the reference -/
section MBI
variable {l : Launch} {Gr : zG} {n w : Nat} {d : Nat} {S A T B : zS} {x y x1 x4 : Int32} {X Y : Nat → Int32} {Q : Option Value → zS → Prop} {a b m t : Nat}
theorem mb_or (hg : ip_gk (lg_tbl, vwCl, Gr)) (hm : m ≤ 32) : ∀ (k j : Nat) (T B : zS), j + k = m → MEc T B → MW T → (∀ j, VC T (X j)) → (∀ j, VC T (Y j)) → (∀ i, i < m → B.1 123 i = X i) → (∀ i, i < m → B.1 124 i = Y i) → (∀ B', MEc ((bitsP 2 X Y k j).2 T).2 B' → FM (fun c i => c = 125 ∧ j ≤ i ∧ i < 40) B B' → (∀ i, i < k → B'.1 125 (j + i) = ((bitsP 2 X Y k j).2 T).1.getD i (-2)) → zW l Gr (zc n w) 168 M_Mo_binary (d + 5) 314 [some (.ref 105), none, none, none, some (.int x4), none, none, none] [] B' Q) → zW l Gr (zc n w) 168 M_Mo_binary (d + 5) 271 [some (.ref 105), none, none, some (.int (nI m)), some (.int x4), some (.int (nI j)), none, none] [] B Q
  | 0, j, T, B, h, hK, hW, vX, vY, hX, hY, hQ => b_Mo_binary_271 (fun _ => hQ B hK FM_rfl (fun i hi => absurd hi (by omega))) (fun q => absurd (nI_le (a := m) (b := j) (by omega) (by omega)) q)
  | k + 1, j, T, B, h, hK, hW, vX, vY, hX, hY, hQ => by
    have o := m_run hW (W_bit (t := 2) (vX j) (vY j))
    refine b_Mo_binary_271 (fun q => absurd q (nI_ge (a := j) (b := m) (by omega) (by omega))) (fun _ => b_Mo_binary_277 hg (vp_in_nI (by omega) (by omega)) (by
      rw [nI_clamp (by omega), hX j (by omega), hY j (by omega)]
      exact wm_andK (d := d + 2) hg hK hW (VC_f (vX j)) (VC_f (vY j))) (fun v B1 h1 => b_Mo_binary_305 (vp_in_nI (by omega) (by omega)) ?_))
    obtain ⟨ev, K1, F1⟩ := h1
    subst ev
    rw [nI_clamp (by omega), show nI j + Int32.ofInt 1 = nI (j + 1) from nI_add j 1]
    refine mb_or hg hm k (j + 1) ((bitP 2 (X j) (Y j)).2 T).2 _ (by omega) (MEc_zi K1 (by omega)) (MOK_W o.1) (fun j => VC_m o.1 (vX j)) (fun j => VC_m o.1 (vY j)) (fun i hi => ?_) (fun i hi => ?_) (fun B' e1 e2 e3 => hQ B' e1 ?_ (fun i hi => ?_))
    · rw [zi_c (by decide), F1.1 123 i (by omega) (by omega)]
      exact hX i hi
    · rw [zi_c (by decide), F1.1 124 i (by omega) (by omega)]
      exact hY i hi
    · exact FM_tr (FM_x (P := fun _ _ => False) F1) (FM_tr (FM_zi (P := fun c i => c = 125 ∧ i = j) ⟨rfl, rfl⟩) e2 (P'' := fun c i => c = 125 ∧ j ≤ i ∧ i < 40) (by omega) (by omega)) (fun _ _ z => z.elim) (fun _ _ z => z)
    · cases i with
      | zero => exact (e2.1 125 (j + 0) (by omega) (by omega) (by omega)).trans zi_v
      | succ i => exact (congrArg (B'.1 125) (by omega)).trans (e3 i (by omega))
theorem mb_and (hg : ip_gk (lg_tbl, vwCl, Gr)) (hm : m ≤ 32) : ∀ (k j : Nat) (T B : zS), j + k = m → MEc T B → MW T → (∀ j, VC T (X j)) → (∀ j, VC T (Y j)) → (∀ i, i < m → B.1 123 i = X i) → (∀ i, i < m → B.1 124 i = Y i) → (∀ B', MEc ((bitsP 1 X Y k j).2 T).2 B' → FM (fun c i => c = 125 ∧ j ≤ i ∧ i < 40) B B' → (∀ i, i < k → B'.1 125 (j + i) = ((bitsP 1 X Y k j).2 T).1.getD i (-2)) → zW l Gr (zc n w) 168 M_Mo_binary (d + 5) 357 [some (.ref 105), none, none, none, some (.int x4), none, none, none] [] B' Q) → zW l Gr (zc n w) 168 M_Mo_binary (d + 5) 320 [some (.ref 105), none, none, some (.int (nI m)), some (.int x4), some (.int (nI j)), none, none] [] B Q
  | 0, j, T, B, h, hK, hW, vX, vY, hX, hY, hQ => b_Mo_binary_320 (fun _ => hQ B hK FM_rfl (fun i hi => absurd hi (by omega))) (fun q => absurd (nI_le (a := m) (b := j) (by omega) (by omega)) q)
  | k + 1, j, T, B, h, hK, hW, vX, vY, hX, hY, hQ => by
    have o := m_run hW (W_bit (t := 1) (vX j) (vY j))
    refine b_Mo_binary_320 (fun q => absurd q (nI_ge (a := j) (b := m) (by omega) (by omega))) (fun _ => b_Mo_binary_326 hg (vp_in_nI (by omega) (by omega)) (by
      rw [nI_clamp (by omega), hX j (by omega), hY j (by omega)]
      exact wm_andK (d := d + 2) hg hK hW (vX j) (vY j)) (fun v B1 h1 => b_Mo_binary_350 (vp_in_nI (by omega) (by omega)) ?_))
    obtain ⟨ev, K1, F1⟩ := h1
    subst ev
    rw [nI_clamp (by omega), show nI j + Int32.ofInt 1 = nI (j + 1) from nI_add j 1]
    refine mb_and hg hm k (j + 1) ((bitP 1 (X j) (Y j)).2 T).2 _ (by omega) (MEc_zi K1 (by omega)) (MOK_W o.1) (fun j => VC_m o.1 (vX j)) (fun j => VC_m o.1 (vY j)) (fun i hi => ?_) (fun i hi => ?_) (fun B' e1 e2 e3 => hQ B' e1 ?_ (fun i hi => ?_))
    · rw [zi_c (by decide), F1.1 123 i (by omega) (by omega)]
      exact hX i hi
    · rw [zi_c (by decide), F1.1 124 i (by omega) (by omega)]
      exact hY i hi
    · exact FM_tr (FM_x (P := fun _ _ => False) F1) (FM_tr (FM_zi (P := fun c i => c = 125 ∧ i = j) ⟨rfl, rfl⟩) e2 (P'' := fun c i => c = 125 ∧ j ≤ i ∧ i < 40) (by omega) (by omega)) (fun _ _ z => z.elim) (fun _ _ z => z)
    · cases i with
      | zero => exact (e2.1 125 (j + 0) (by omega) (by omega) (by omega)).trans zi_v
      | succ i => exact (congrArg (B'.1 125) (by omega)).trans (e3 i (by omega))
theorem mb_xor (hg : ip_gk (lg_tbl, vwCl, Gr)) (hm : m ≤ 32) : ∀ (k j : Nat) (T B : zS), j + k = m → MEc T B → MW T → (∀ j, VC T (X j)) → (∀ j, VC T (Y j)) → (∀ i, i < m → B.1 123 i = X i) → (∀ i, i < m → B.1 124 i = Y i) → (∀ B', MEc ((bitsP 0 X Y k j).2 T).2 B' → FM (fun c i => c = 125 ∧ j ≤ i ∧ i < 40) B B' → (∀ i, i < k → B'.1 125 (j + i) = ((bitsP 0 X Y k j).2 T).1.getD i (-2)) → zW l Gr (zc n w) 168 M_Mo_binary (d + 5) 400 [some (.ref 105), none, none, none, some (.int x4), none, none, none] [] B' Q) → zW l Gr (zc n w) 168 M_Mo_binary (d + 5) 363 [some (.ref 105), none, none, some (.int (nI m)), some (.int x4), some (.int (nI j)), none, none] [] B Q
  | 0, j, T, B, h, hK, hW, vX, vY, hX, hY, hQ => b_Mo_binary_363 (fun _ => hQ B hK FM_rfl (fun i hi => absurd hi (by omega))) (fun q => absurd (nI_le (a := m) (b := j) (by omega) (by omega)) q)
  | k + 1, j, T, B, h, hK, hW, vX, vY, hX, hY, hQ => by
    have o := m_run hW (W_bit (t := 0) (vX j) (vY j))
    refine b_Mo_binary_363 (fun q => absurd q (nI_ge (a := j) (b := m) (by omega) (by omega))) (fun _ => b_Mo_binary_369 hg (vp_in_nI (by omega) (by omega)) (by
      rw [nI_clamp (by omega), hX j (by omega), hY j (by omega)]
      exact wm_xorK (d := d + 2) hg hK hW (vX j) (vY j)) (fun v B1 h1 => b_Mo_binary_393 (vp_in_nI (by omega) (by omega)) ?_))
    obtain ⟨ev, K1, F1⟩ := h1
    subst ev
    rw [nI_clamp (by omega), show nI j + Int32.ofInt 1 = nI (j + 1) from nI_add j 1]
    refine mb_xor hg hm k (j + 1) ((bitP 0 (X j) (Y j)).2 T).2 _ (by omega) (MEc_zi K1 (by omega)) (MOK_W o.1) (fun j => VC_m o.1 (vX j)) (fun j => VC_m o.1 (vY j)) (fun i hi => ?_) (fun i hi => ?_) (fun B' e1 e2 e3 => hQ B' e1 ?_ (fun i hi => ?_))
    · rw [zi_c (by decide), F1.1 123 i (by omega) (by omega)]
      exact hX i hi
    · rw [zi_c (by decide), F1.1 124 i (by omega) (by omega)]
      exact hY i hi
    · exact FM_tr (FM_x (P := fun _ _ => False) F1) (FM_tr (FM_zi (P := fun c i => c = 125 ∧ i = j) ⟨rfl, rfl⟩) e2 (P'' := fun c i => c = 125 ∧ j ≤ i ∧ i < 40) (by omega) (by omega)) (fun _ _ z => z.elim) (fun _ _ z => z)
    · cases i with
      | zero => exact (e2.1 125 (j + 0) (by omega) (by omega) (by omega)).trans zi_v
      | succ i => exact (congrArg (B'.1 125) (by omega)).trans (e3 i (by omega))
end MBI
