/-! a[i] = EXPR: the reference's instructions -/
section STM
variable {l : Launch} {Gr : zG} {n w : Nat} {d : Nat} {S A A0 T B B0 : zS} {e x y x1 x2 x4 : Int32} {X V : Nat → Int32} {L : Nat → Nat → Int32} {Q : Option Value → zS → Prop} {a b m i o r v q j z c k u : Nat}
theorem me_101 (hw : w ≤ 32) (hq : q < 4200) (h85 : B0.1 73 85 = nI (q + 2)) (hX : ∀ x, x < w → B0.1 122 (32 * q + x) = X x) : ∀ (c x : Nat) (B : zS), x + c = w → MEc T B → FM (fun c i => c = 146 ∧ i < 40) B0 B → (∀ i, i < x → B.1 146 i = X i) → (∀ B', MEc T B' → FM (fun c i => c = 146 ∧ i < 40) B0 B' → (∀ i, i < w → B'.1 146 i = X i) → zW l Gr (zc n w) 168 M_Mo_setElement (d + 5) 140 [some (.ref 105), some (.int (nI j)), some (.int (nI m)), some (.int (nI (q + 1))), none, none, none, none] [] B' Q) → zW l Gr (zc n w) 168 M_Mo_setElement (d + 5) 101 [some (.ref 105), some (.int (nI j)), some (.int (nI m)), some (.int (nI (q + 1))), some (.int (nI x)), none, none, none] [] B Q
  | 0, x, B, h, hK, hF, h1, hQ => b_Mo_setElement_101 (fun _ => hQ B hK hF (fun i hi => h1 i (by omega))) (fun z => absurd (nI_le (a := w) (b := x) (by omega) (by omega)) z)
  | c + 1, x, B, h, hK, hF, h1, hQ => by
    have e1 : 32 * (B.1 73 85 - 2) + nI x = nI (32 * q + x) := by rw [hF.1 73 85 (by omega) (by omega) (by omega), h85, show (2 : Int32) = nI 2 from rfl, nI_subb, nI_mul32, nI_add]
    refine b_Mo_setElement_101 (fun z => absurd z (nI_ge (a := x) (b := w) (by omega) (by omega))) (fun _ => b_Mo_setElement_110 (by rw [e1]; exact vp_in_nI (by omega) (by omega)) (vp_in_nI (by omega) (by omega)) ?_)
    rw [e1, nI_clamp (by omega), nI_clamp (by omega), show nI x + Int32.ofInt 1 = nI (x + 1) from nI_add x 1, hF.1 122 _ (by omega) (by omega) (by omega), hX x (by omega)]
    refine me_101 hw hq h85 hX c (x + 1) _ (by omega) (MEc_zi hK (by omega)) (FM_tr (P'' := fun c i => c = 146 ∧ i < 40) hF (FM_zi (P := fun c i => c = 146 ∧ i < 40) ⟨rfl, by omega⟩) (fun _ _ z => z) (fun _ _ z => z)) (fun i hi => ?_) hQ
    rw [zi_get]
    by_cases z : i = x
    · rw [if_pos ⟨rfl, z⟩, z]
    · rw [if_neg (by omega)]
      exact h1 i (by omega)
theorem me_165 (hg : ip_gk (lg_tbl, vwCl, Gr)) (hm : m ≤ 32) (hj : j < 12000) (hq : q < 4200) (hk : k < z) (haz : a + z ≤ 256) (h103 : B0.1 103 j = nI a) (hV : ∀ x, x < m → B0.1 122 (32 * q + x) = V x) {Lk : Nat → Int32} : ∀ (c x : Nat) (T B : zS), x + c = m → MEc T B → MW T → VC T e → (∀ j, VC T (V j)) → (∀ j, VC T (Lk j)) → FM (P32 a z) B0 B → (∀ i, x ≤ i → i < m → B.1 132 (32 * (a + k) + i) = Lk i) → (∀ B', MEc ((muxsP e V Lk c x).2 T).2 B' → FM (P32 a z) B0 B' → (∀ i, i < c → B'.1 132 (32 * (a + k) + (x + i)) = ((muxsP e V Lk c x).2 T).1.getD i (-2)) → (∀ i, ¬ (32 * (a + k) + x ≤ i ∧ i < 32 * (a + k) + m) → B'.1 132 i = B.1 132 i) → zW l Gr (zc n w) 168 M_Mo_setElement (d + 5) 226 [some (.ref 105), some (.int (nI j)), some (.int (nI m)), some (.int (nI q)), some (.int (nI k)), none, none, none] [] B' Q) → zW l Gr (zc n w) 168 M_Mo_setElement (d + 5) 165 [some (.ref 105), some (.int (nI j)), some (.int (nI m)), some (.int (nI q)), some (.int (nI k)), some (.int e), some (.int (nI x)), none] [] B Q
  | 0, x, T, B, h, hK, hW, he, vV, vL, hF, h1, hQ => b_Mo_setElement_165 (fun _ => hQ B hK hF (fun i hi => absurd hi (by omega)) (fun _ _ => rfl)) (fun z => absurd (nI_le (a := m) (b := x) (by omega) (by omega)) z)
  | c + 1, x, T, B, h, hK, hW, he, vV, vL, hF, h1, hQ => by
    have cj : ((nI j : Int32)).toNatClampNeg = j := nI_clamp (by omega)
    have o1 := m_run hW (W_mux he (vV x) (vL x))
    have e1 : 32 * nI q + nI x = nI (32 * q + x) := by rw [nI_mul32, nI_add]
    have e2 : 32 * (B.1 103 ((nI j : Int32)).toNatClampNeg + nI k) + nI x = nI (32 * (a + k) + x) := by rw [cj, hF.1 103 j (by omega) (by omega) (by unfold P32; omega), h103, nI_add, nI_mul32, nI_add]
    refine b_Mo_setElement_165 (fun z => absurd z (nI_ge (a := x) (b := m) (by omega) (by omega))) (fun _ => b_Mo_setElement_171 hg (R := fun v B' => v = ((muxP e (V x) (Lk x)).2 T).1 ∧ MEc ((muxP e (V x) (Lk x)).2 T).2 B' ∧ KXm B B') (vp_in_nI hj (by omega)) (by rw [e1]; exact vp_in_nI (by omega) (by omega)) (by rw [e2]; exact vp_in_nI (by omega) (by omega)) (by
      rw [e1, e2, nI_clamp (by omega), nI_clamp (by omega), h1 x (Nat.le_refl _) (by omega), hF.1 122 _ (by omega) (by omega) (by unfold P32; omega), hV x (by omega)]
      exact wm_muxK (d := d + 1) hg hK hW he (vV x) (vL x)) (fun v B1 k1 => ?_))
    obtain ⟨ev, K1, F1⟩ := k1
    subst ev
    rw [e2]
    refine b_Mo_setElement_219 (vp_in_nI (by omega) (by omega)) ?_
    rw [nI_clamp (by omega), show nI x + Int32.ofInt 1 = nI (x + 1) from nI_add x 1]
    have FF : FM (P32 a z) B0 (zi B1 132 (32 * (a + k) + x) ((muxP e (V x) (Lk x)).2 T).1) := FM_tr (P'' := P32 a z) hF (FM_tr (P'' := P32 a z) (FM_x (P := P32 a z) F1) (FM_zi (P := P32 a z) (Or.inr ⟨rfl, by omega, by omega⟩)) (fun _ _ z => z) (fun _ _ z => z)) (fun _ _ z => z) (fun _ _ z => z)
    have f132 : ∀ i, B1.1 132 i = B.1 132 i := fun i => F1.1 132 i (by omega) (by omega)
    refine me_165 hg hm hj hq hk haz h103 hV c (x + 1) _ _ (by omega) (MEc_zi K1 (by omega)) (MOK_W o1.1) (VC_m o1.1 he) (fun j => VC_m o1.1 (vV j)) (fun j => VC_m o1.1 (vL j)) FF (fun i q1 q2 => ?_) (fun B' e1 e2 e3 e4 => hQ B' e1 e2 (fun i hi => ?_) (fun i hi => ?_))
    · rw [zi_get, if_neg (by omega), f132]
      exact h1 i (by omega) q2
    · cases i with
      | zero => exact (e4 _ (by omega)).trans zi_v
      | succ i => exact (congrArg (B'.1 132) (by omega)).trans (e3 i (by omega))
    · rw [e4 i (by omega), zi_get, if_neg (by omega), f132]
theorem me_143 (hg : ip_gk (lg_tbl, vwCl, Gr)) (hw : w ≤ 32) (hw1 : 1 ≤ w) (hm : m ≤ 32) (hj : j < 12000) (hq : q < 4200) (hz : z ≤ 64) (haz : a + z ≤ 256) (h103 : B0.1 103 j = nI a) (h104 : B0.1 104 j = nI z) (h146 : ∀ i, i < w → B0.1 146 i = X i) (hV : ∀ x, x < m → B0.1 122 (32 * q + x) = V x) : ∀ (c k : Nat) (R : Nat → Nat → Int32) (T B : zS), k + c = z → MEc T B → MW T → (∀ j, VC T (X j)) → (∀ j, VC T (V j)) → (∀ k j, VC T (L k j)) → FM (P32 a z) B0 B  → (∀ k' i, k' < z → i < m → B.1 132 (32 * (a + k') + i) = if k' < k then R k' i else L k' i) → (∀ k' i, k' < z → m ≤ i → i < 32 → B.1 132 (32 * (a + k') + i) = B0.1 132 (32 * (a + k') + i)) → (∀ B', MEc ((stoP w m X V L c k R).2 T).2 B' → FM (P32 a z) B0 B' → (∀ k' i, k' < z → i < m → B'.1 132 (32 * (a + k') + i) = ((stoP w m X V L c k R).2 T).1 k' i) → (∀ k' i, k' < z → m ≤ i → i < 32 → B'.1 132 (32 * (a + k') + i) = B0.1 132 (32 * (a + k') + i)) → zW l Gr (zc n w) 168 M_Mo_setElement (d + 5) 232 [some (.ref 105), none, none, none, none, none, none, none] [] B' Q) → zW l Gr (zc n w) 168 M_Mo_setElement (d + 5) 143 [some (.ref 105), some (.int (nI j)), some (.int (nI m)), some (.int (nI q)), some (.int (nI k)), none, none, none] [] B Q
  | 0, k, R, T, B, h, hK, hW, vX, vV, vL, hF, h1, h2, hQ => b_Mo_setElement_143 (vp_in_nI hj (by omega)) (fun _ => hQ B hK hF (fun k' i q1 q2 => by rw [h1 k' i q1 q2, if_pos (by omega)]; rfl) h2) (fun q => absurd (by rw [nI_clamp (by omega), hF.1 104 j (by omega) (by omega) (by unfold P32; omega), h104]; exact nI_le (by omega) (by omega)) q)
  | c + 1, k, R, T, B, h, hK, hW, vX, vV, vL, hF, h1, h2, hQ => by
    have o1 := m_run hW (W_idx (v := k) (w := w) vX)
    refine b_Mo_setElement_143 (vp_in_nI hj (by omega)) (fun q => absurd q (by rw [nI_clamp (by omega), hF.1 104 j (by omega) (by omega) (by unfold P32; omega), h104]; exact nI_ge (by omega) (by omega))) (fun _ => b_Mo_setElement_154 hg (wm_isIndex hg hw hw1 (by omega) hK hW vX (fun i hi => by rw [hF.1 146 i (by omega) (by omega) (by unfold P32; omega)]; exact h146 i hi)) (fun v B1 k1 => b_Mo_setElement_160 ?_))
    obtain ⟨ev, K1, F1⟩ := k1
    subst ev
    have FF : FM (P32 a z) B0 B1 := FM_tr (P'' := P32 a z) hF F1 (fun _ _ z => z) (fun c i z => by unfold P32; omega)
    have g132 : ∀ i, B1.1 132 i = B.1 132 i := fun i => F1.1 132 i (by omega) (by omega) (by omega)
    have r2 := m_run (MOK_W o1.1) (W_muxs (F := V) (D := L k) m 0 _ o1.2.1 (fun j => VC_m o1.1 (vV j)) (fun j => VC_m o1.1 (vL k j)))
    refine me_165 (Lk := L k) (V := V) hg hm hj hq (by omega) haz h103 hV m 0 _ B1 (by omega) K1 (MOK_W o1.1) o1.2.1 (fun j => VC_m o1.1 (vV j)) (fun j => VC_m o1.1 (vL k j)) FF (fun i _ hi => by rw [g132, h1 k i (by omega) hi, if_neg (by omega)]) (fun B2 e1 e2 e3 e4 => b_Mo_setElement_226 ?_)
    rw [show nI k + Int32.ofInt 1 = nI (k + 1) from nI_add k 1]
    refine me_143 hg hw hw1 hm hj hq hz haz h103 h104 h146 hV c (k + 1) _ _ B2 (by omega) e1 (MOK_W r2.1) (fun j => VC_m r2.1 (VC_m o1.1 (vX j))) (fun j => VC_m r2.1 (VC_m o1.1 (vV j))) (fun k j => VC_m r2.1 (VC_m o1.1 (vL k j))) e2 (fun k' i q1 q2 => ?_) (fun k' i q1 q2 q3 => by rw [e4 _ (by omega), g132]; exact h2 k' i q1 q2 q3) hQ
    by_cases ek : k' = k
    · subst ek
      rw [if_pos (by omega), if_pos rfl]
      have := e3 i q2
      rw [Nat.zero_add] at this
      exact this
    · rw [e4 _ (by omega), g132, h1 k' i q1 q2]
      by_cases q : k' < k
      · rw [if_pos q, if_pos (by omega), if_neg ek]
      · rw [if_neg q, if_neg (by omega)]
theorem me_42 (hm : m ≤ 32) (hj : j < 12000) (hq : q < 4200) (hv : v < z) (haz : a + z ≤ 256) (h103 : B0.1 103 j = nI a) (hV : ∀ x, x < m → B0.1 122 (32 * q + x) = V x) : ∀ (c x : Nat) (B : zS), x + c = m → MEc T B → FM (fun c i => c = 132 ∧ 32 * (a + v) ≤ i ∧ i < 32 * (a + v) + m) B0 B → (∀ i, i < x → B.1 132 (32 * (a + v) + i) = V i) → (∀ B', MEc T B' → FM (fun c i => c = 132 ∧ 32 * (a + v) ≤ i ∧ i < 32 * (a + v) + m) B0 B' → (∀ i, i < m → B'.1 132 (32 * (a + v) + i) = V i) → zW l Gr (zc n w) 168 M_Mo_setElement (d + 5) 87 [some (.ref 105), none, none, none, none, none, none, none] [] B' Q) → zW l Gr (zc n w) 168 M_Mo_setElement (d + 5) 42 [some (.ref 105), some (.int (nI j)), some (.int (nI m)), some (.int (nI q)), some (.long (lN v)), none, some (.int (nI x)), none] [] B Q
  | 0, x, B, h, hK, hF, h1, hQ => b_Mo_setElement_42 (fun _ => hQ B hK hF (fun i hi => h1 i (by omega))) (fun z => absurd (nI_le (a := m) (b := x) (by omega) (by omega)) z)
  | c + 1, x, B, h, hK, hF, h1, hQ => by
    have cj : ((nI j : Int32)).toNatClampNeg = j := nI_clamp (by omega)
    have e1 : 32 * nI q + nI x = nI (32 * q + x) := by rw [nI_mul32, nI_add]
    have e2 : 32 * (B.1 103 ((nI j : Int32)).toNatClampNeg + (lN v).toInt32) + nI x = nI (32 * (a + v) + x) := by rw [cj, hF.1 103 j (by omega) (by omega) (by omega), h103, lN_i, nI_add, nI_mul32, nI_add]
    refine b_Mo_setElement_42 (fun z => absurd z (nI_ge (a := x) (b := m) (by omega) (by omega))) (fun _ => b_Mo_setElement_48 (vp_in_nI hj (by omega)) (by rw [e1]; exact vp_in_nI (by omega) (by omega)) (by rw [e2]; exact vp_in_nI (by omega) (by omega)) ?_)
    rw [e1, e2, nI_clamp (by omega), nI_clamp (by omega), show nI x + Int32.ofInt 1 = nI (x + 1) from nI_add x 1, hF.1 122 _ (by omega) (by omega) (by omega), hV x (by omega)]
    refine me_42 hm hj hq hv haz h103 hV c (x + 1) _ (by omega) (MEc_zi hK (by omega)) (FM_tr hF (FM_zi (P := fun c i => c = 132 ∧ 32 * (a + v) ≤ i ∧ i < 32 * (a + v) + m) ⟨rfl, by omega, by omega⟩) (fun _ _ z => z) (fun _ _ z => z)) (fun i hi => ?_) hQ
    rw [zi_get]
    by_cases z : i = x
    · rw [if_pos ⟨rfl, by omega⟩, z]
    · rw [if_neg (by omega)]
      exact h1 i (by omega)
theorem ms_34b (hg : ip_gk (lg_tbl, vwCl, Gr)) (hj : j < 12000) (h78 : B.1 78 j = 34) {R : zS → Prop} (q : zMv l Gr (zc n w) 168 M_Mo_setElement (d + 5) [.ref 105, .int (nI j)] B R) : zMi l Gr (zc n w) 168 M_Mo_statement (d + 6) [.ref 105, .int (nI j)] B (fun v B' => v = nI (j + 1) ∧ R B') :=
  e_Mo_statement (ms_0 (z := 34) hj h78 (by omega) (by omega) (by omega) (by omega) (by omega) (by omega) (by omega) (by omega) (fun _ => b_Mo_statement_409 hg q (fun B' k => b_Mo_statement_414 (ms_end k))) (by omega) (by omega) (by omega) (by omega) (by omega) (by omega) (by omega))
theorem me_0 (hg : ip_gk (lg_tbl, vwCl, Gr)) (hj : j < 12000) (hr : r ≤ 1) (hm : m = if r = 1 then 1 else w) (h105 : B.1 105 j = nI r) (h85 : B.1 73 85 = nI (q + 2)) (k0 : B.1 107 j = 0 → zW l Gr (zc n w) 168 M_Mo_setElement (d + 5) 98 [some (.ref 105), some (.int (nI j)), some (.int (nI m)), some (.int (nI (q + 1))), none, none, none, none] [] B Q) (k1 : ¬ B.1 107 j = 0 → zW l Gr (zc n w) 168 M_Mo_setElement (d + 5) 27 [some (.ref 105), some (.int (nI j)), some (.int (nI m)), some (.int (nI (q + 1))), none, none, none, none] [] B Q) : zW l Gr (zc n w) 168 M_Mo_setElement (d + 5) 0 [some (.ref 105), some (.int (nI j)), none, none, none, none, none, none] [] B Q := by
  have cj : ((nI j : Int32)).toNatClampNeg = j := nI_clamp (by omega)
  refine b_Mo_setElement_0 hg (vp_in_nI hj (by omega)) wm_width (fun v B1 k1' => ?_)
  obtain ⟨ev, e1⟩ := k1'
  subst e1
  have ev : v = nI m := by
    rw [ev, cj, h105, hm]
    by_cases z : r = 1
    · rw [if_pos z, if_neg (by rw [z]; decide)]
      rfl
    · rw [if_neg z, if_pos (by rw [show r = 0 by omega]; rfl)]
  rw [ev]
  refine b_Mo_setElement_10 (vp_in_nI hj (by omega)) (fun y => ?_) (fun y => ?_)
  · rw [h85, nI_pred]
    exact k0 (by rw [cj] at y; exact y)
  · rw [h85, nI_pred]
    exact k1 (by rw [cj] at y; exact y)
theorem ms_34N (hg : ip_gk (lg_tbl, vwCl, Gr)) (hw : w ≤ 32) (hw1 : 1 ≤ w) (hj : j < 12000) (hr : r ≤ 1) (hm : m = if r = 1 then 1 else w) (hq : q + 1 < 4200) (hz : z ≤ 64) (haz : a + z ≤ 256) (h78 : B.1 78 j = 34) (h103 : B.1 103 j = nI a) (h104 : B.1 104 j = nI z) (h105 : B.1 105 j = nI r) (h107 : B.1 107 j = 0) (h85 : B.1 73 85 = nI (q + 2)) (hX : ∀ x, x < w → B.1 122 (32 * q + x) = X x) (hV : ∀ x, x < m → B.1 122 (32 * (q + 1) + x) = V x) (hL : ∀ k x, k < z → x < m → B.1 132 (32 * (a + k) + x) = L k x) (hW : MW B) (vX : ∀ j, VC B (X j)) (vV : ∀ j, VC B (V j)) (vL : ∀ k j, VC B (L k j)) : zMi l Gr (zc n w) 168 M_Mo_statement (d + 6) [.ref 105, .int (nI j)] B (fun v B' => v = nI (j + 1) ∧ OSm ((stoP w m X V L z 0 L).2 B).2 B B' q m a z ((stoP w m X V L z 0 L).2 B).1) := by
  have hm2 : m ≤ 32 := by rw [hm]; split <;> omega
  refine ms_34b hg hj h78 (e_Mo_setElement (me_0 (q := q) hg hj hr hm h105 h85 (fun _ => b_Mo_setElement_98 ?_) (fun y => absurd h107 y)))
  refine me_101 (T := B) (B0 := B) (X := X) hw (by omega) h85 hX w 0 B (by omega) MEc_rfl FM_rfl (fun i hi => absurd hi (by omega)) (fun B1 e1 e2 e3 => b_Mo_setElement_140 ?_)
  have f1 : ∀ c i, ¬ (c = 146) → ¬ (c = 73 ∧ (i = 7 ∨ i = 8 ∨ i = 66 ∨ i = 67 ∨ i = 68)) → ¬ (111 ≤ c ∧ c ≤ 114) → B1.1 c i = B.1 c i := fun c i q1 q2 q3 => e2.1 c i q2 q3 (by omega)
  refine me_143 (B0 := B1) (X := X) (V := V) (L := L) hg hw hw1 hm2 hj hq hz haz ((f1 103 j (by omega) (by omega) (by omega)).trans h103) ((f1 104 j (by omega) (by omega) (by omega)).trans h104) e3 (fun x hx => by rw [f1 122 _ (by omega) (by omega) (by omega)]; exact hV x hx) z 0 L B B1 (by omega) e1 hW vX vV vL FM_rfl (fun k x hk hx => by rw [if_neg (by omega), f1 132 _ (by omega) (by omega) (by omega)]; exact hL k x hk hx) (fun _ _ _ _ _ => rfl) (fun B2 g1 g2 g3 g4 => b_Mo_setElement_232 ⟨rfl, MEc_85 g1, ?_, ?_, fun k x hk hx => by rw [zi_c (by decide)]; exact g3 k x hk hx, fun k x hk hx hx2 => by rw [zi_c (by decide), g4 k x hk hx hx2]; exact f1 132 _ (by omega) (by omega) (by omega)⟩)
  · exact FM_tr (P'' := fun c i => (c = 73 ∧ i = 85) ∨ c = 146 ∨ P32 a z c i) e2 (FM_tr (P'' := fun c i => (c = 73 ∧ i = 85) ∨ c = 146 ∨ P32 a z c i) g2 (FM_zi (P := fun c i => (c = 73 ∧ i = 85) ∨ c = 146 ∨ P32 a z c i) (Or.inl ⟨rfl, rfl⟩)) (fun _ _ z => Or.inr (Or.inr z)) (fun _ _ z => z)) (fun _ _ z => Or.inr (Or.inl z.1)) (fun _ _ z => z)
  · rw [zi_get, if_pos ⟨rfl, rfl⟩, g2.1 73 85 (by omega) (by omega) (by unfold P32; omega), f1 73 85 (by omega) (by omega) (by omega), h85, show (2 : Int32) = nI 2 from rfl, nI_subb]
theorem ms_34P (hg : ip_gk (lg_tbl, vwCl, Gr)) (hw : w ≤ 32) (hw1 : 1 ≤ w) (hj : j < 12000) (hr : r ≤ 1) (hm : m = if r = 1 then 1 else w) (hq : q + 1 < 4200) (hz : z ≤ 64) (haz : a + z ≤ 256) (h78 : B.1 78 j = 34) (h103 : B.1 103 j = nI a) (h105 : B.1 105 j = nI r) (h107 : ¬ B.1 107 j = 0) (h85 : B.1 73 85 = nI (q + 2)) (hX : ∀ x, x < w → B.1 122 (32 * q + x) = X x) (hV : ∀ x, x < m → B.1 122 (32 * (q + 1) + x) = V x) (hL : ∀ k x, k < z → x < m → B.1 132 (32 * (a + k) + x) = L k x) (hv : nvb (xbo X) w 0 < z) : zMi l Gr (zc n w) 168 M_Mo_statement (d + 6) [.ref 105, .int (nI j)] B (fun v B' => v = nI (j + 1) ∧ OSm B B B' q m a z (fun k x => if k = nvb (xbo X) w 0 then V x else L k x)) := by
  have hm2 : m ≤ 32 := by rw [hm]; split <;> omega
  have e85' : B.1 73 85 - 2 = nI q := by rw [h85, show (2 : Int32) = nI 2 from rfl, nI_subb]
  refine ms_34b hg hj h78 (e_Mo_setElement (me_0 (q := q) hg hj hr hm h105 h85 (fun y => absurd y h107) (fun _ => b_Mo_setElement_27 hg (R := fun v B' => v = lN (nvb (xbo X) w 0) ∧ B' = B) (by rw [e85']; exact wm_worth hw (by omega) hX) (fun v B1 k1 => ?_))))
  rw [k1.1, k1.2]
  refine b_Mo_setElement_37 (me_42 (B0 := B) (T := B) (V := V) (z := z) hm2 hj hq hv haz h103 hV m 0 B (by omega) MEc_rfl FM_rfl (fun i hi => absurd hi (by omega)) (fun B2 g1 g2 g3 => b_Mo_setElement_87 ⟨rfl, MEc_85 g1, ?_, ?_, fun k x hk hx => ?_, fun k x hk hx hx2 => by rw [zi_c (by decide)]; exact g2.1 132 _ (by omega) (by omega) (by omega)⟩))
  · exact FM_tr (P'' := fun c i => (c = 73 ∧ i = 85) ∨ c = 146 ∨ P32 a z c i) g2 (FM_zi (P := fun c i => (c = 73 ∧ i = 85) ∨ c = 146 ∨ P32 a z c i) (Or.inl ⟨rfl, rfl⟩)) (fun c i z => by unfold P32; omega) (fun _ _ z => z)
  · rw [zi_get, if_pos ⟨rfl, rfl⟩, g2.1 73 85 (by omega) (by omega) (by omega), e85']
  · rw [zi_c (by decide)]
    show _ = if k = nvb (xbo X) w 0 then V x else L k x
    by_cases ek : k = nvb (xbo X) w 0
    · rw [if_pos ek, ek]
      exact g3 x hx
    · rw [if_neg ek, g2.1 132 _ (by omega) (by omega) (by omega)]
      exact hL k x hk hx
theorem ms_42 (hg : ip_gk (lg_tbl, vwCl, Gr)) (hw : w ≤ 32) (hj : j < 12000) (hq : q < 4200) (hz : z ≤ 64) (h78 : B.1 78 j = 42) (h104 : B.1 104 j = nI z) (h85 : B.1 73 85 = nI (q + 1)) (hX : ∀ x, x < w → B.1 122 (32 * q + x) = X x) : zMi l Gr (zc n w) 168 M_Mo_statement (d + 6) [.ref 105, .int (nI j)] B (fun v B' => v = nI (j + 1) ∧ (B.1 107 j = 0 ∨ nvb (xbo X) w 0 < z → B' = B) ∧ (¬ B.1 107 j = 0 → ¬ nvb (xbo X) w 0 < z → B' = mT B 7 (B.1 106 j))) := by
  have cj : ((nI j : Int32)).toNatClampNeg = j := nI_clamp (by omega)
  have e85 : B.1 73 85 - 1 = nI q := by rw [h85, nI_pred]
  have cm : lg_cmp (Int64.ofNat (nvb (xbo X) w 0)) ((nI z : Int32)).toInt64 < 0 ↔ nvb (xbo X) w 0 < z := by
    rw [lg_cmp_lt, show ((nI z : Int32)).toInt64 = Int64.ofNat z from i64_n (by omega)]
    exact i64_lt (by have := nvb_62 (xb := xbo X) hw; omega) (by omega)
  refine e_Mo_statement (ms_0 (z := 42) hj h78 (by omega) (by omega) (by omega) (by omega) (by omega) (by omega) (by omega) (by omega) (by omega) (by omega) (by omega) (by omega) (by omega) (by omega) (fun _ => b_Mo_statement_417 (vp_in_nI hj (by omega)) (fun y => ?_) (fun y => ?_)) (by omega))
  · rw [cj] at y
    exact ms_end (R := fun B' => (B.1 107 j = 0 ∨ nvb (xbo X) w 0 < z → B' = B) ∧ (¬ B.1 107 j = 0 → ¬ nvb (xbo X) w 0 < z → B' = mT B 7 (B.1 106 j))) ⟨fun _ => rfl, fun q => absurd y q⟩
  · rw [cj] at y
    refine b_Mo_statement_426 hg (R := fun v B' => v = lN (nvb (xbo X) w 0) ∧ B' = B) (by rw [e85]; exact wm_worth hw (by omega) hX) (fun v B1 k1 => ?_)
    rw [k1.1, k1.2]
    refine b_Mo_statement_436 (vp_in_nI hj (by omega)) (fun y2 => ?_) (fun y2 => ?_)
    · rw [cj, h104] at y2
      have hv := cm.mp y2
      exact ms_end (R := fun B' => (B.1 107 j = 0 ∨ nvb (xbo X) w 0 < z → B' = B) ∧ (¬ B.1 107 j = 0 → ¬ nvb (xbo X) w 0 < z → B' = mT B 7 (B.1 106 j))) ⟨fun _ => rfl, fun _ q => absurd hv q⟩
    · rw [cj, h104] at y2
      have hv : ¬ nvb (xbo X) w 0 < z := fun q => y2 (cm.mpr q)
      refine b_Mo_statement_447 hg (vp_in_nI hj (by omega)) wm_fl (fun B2 k2 => b_Mo_statement_459 (ms_end (R := fun B' => (B.1 107 j = 0 ∨ nvb (xbo X) w 0 < z → B' = B) ∧ (¬ B.1 107 j = 0 → ¬ nvb (xbo X) w 0 < z → B' = mT B 7 (B.1 106 j))) ⟨fun q => absurd (q.resolve_left y) hv, fun _ _ => by rw [k2, cj]⟩))
end STM
