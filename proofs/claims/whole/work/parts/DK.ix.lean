/-! the reference's indexed() -/
def P12 : Nat → Nat → Prop := fun c i => (123 ≤ c ∧ c ≤ 130) ∧ i < 40
section IND
variable {l : Launch} {Gr : zG} {n w : Nat} {d : Nat} {S A A0 T B B0 : zS} {e x1 x2 x4 : Int32} {X Y F O R : Nat → Int32} {L : Nat → Nat → Int32} {Q : Option Value → zS → Prop} {a b m i o r v q j z c k u x : Nat}
theorem wm_el0 (hj : j < 12000) (h102 : B.1 102 j = 1) (h103 : B.1 103 j = nI a) (ha : a + k < 256) : zMi l Gr (zc n w) 168 M_Mo_elementBit d [.ref 105, .int (nI j), .int (nI k), .int (nI x)] B (fun v B' => v = 2 * (B.1 117 (a + k) + nI x) ∧ B' = B) := by
  have c0 : ((nI j : Int32)).toNatClampNeg = j := nI_clamp (by omega)
  refine e_Mo_elementBit (b_Mo_elementBit_0 (vp_in_nI hj (by omega)) (fun y => absurd (by rw [c0]; exact h102) y) (fun _ => b_Mo_elementBit_10 (vp_in_nI hj (by omega)) (by rw [c0, h103, nI_add]; exact vp_in_nI ha (by omega)) (b_Mo_elementBit_48 ⟨_, rfl, ?_, rfl⟩)))
  rw [c0, h103, nI_add, nI_clamp (by omega)]
theorem wm_el1 (hj : j < 12000) (h102 : ¬ B.1 102 j = 1) (h103 : B.1 103 j = nI a) (ha : a + k < 256) (hx : x < 32) : zMi l Gr (zc n w) 168 M_Mo_elementBit d [.ref 105, .int (nI j), .int (nI k), .int (nI x)] B (fun v B' => v = B.1 132 (32 * (a + k) + x) ∧ B' = B) := by
  have c0 : ((nI j : Int32)).toNatClampNeg = j := nI_clamp (by omega)
  have e1 : 32 * (nI a + nI k) + nI x = nI (32 * (a + k) + x) := by rw [nI_add, nI_mul32, nI_add]
  refine e_Mo_elementBit (b_Mo_elementBit_0 (vp_in_nI hj (by omega)) (fun _ => b_Mo_elementBit_30 (vp_in_nI hj (by omega)) (by rw [c0, h103, e1]; exact vp_in_nI (by omega) (by omega)) (b_Mo_elementBit_48 ⟨_, rfl, ?_, rfl⟩)) (fun y => absurd y (by rw [c0]; exact h102)))
  rw [c0, h103, e1, nI_clamp (by omega)]
theorem mi_69 (hg : ip_gk (lg_tbl, vwCl, Gr)) (hm : m ≤ 32) (elem : ∀ (x : Nat) (B : zS), x < m → FM P12 B0 B → zMi l Gr (zc n w) 168 M_Mo_elementBit (d + 4) [.ref 105, .int (nI j), .int (nI v), .int (nI x)] B (fun u B' => u = F x ∧ B' = B)) : ∀ (c x : Nat) (B : zS), x + c = m → MEc T B → FM P12 B0 B → (∀ i, i < x → B.1 125 i = F i) → (∀ B', MEc T B' → FM P12 B0 B' → (∀ i, i < m → B'.1 125 i = F i) → zW l Gr (zc n w) 168 M_Mo_indexed (d + 5) 97 [some (.ref 105), none, some (.int (nI m)), none, none, none] [] B' Q) → zW l Gr (zc n w) 168 M_Mo_indexed (d + 5) 69 [some (.ref 105), some (.int (nI j)), some (.int (nI m)), some (.long (lN v)), none, some (.int (nI x))] [] B Q
  | 0, x, B, h, hK, hF, h1, hQ => b_Mo_indexed_69 (fun _ => hQ B hK hF (fun i hi => h1 i (by omega))) (fun z => absurd (nI_le (a := m) (b := x) (by omega) (by omega)) z)
  | c + 1, x, B, h, hK, hF, h1, hQ => by
    refine b_Mo_indexed_69 (fun z => absurd z (nI_ge (a := x) (b := m) (by omega) (by omega))) (fun _ => b_Mo_indexed_75 hg (R := fun u B' => u = F x ∧ B' = B) (by rw [lN_i]; exact elem x B (by omega) hF) (fun u B1 k1 => b_Mo_indexed_90 (vp_in_nI (by omega) (by omega)) ?_))
    rw [k1.1, k1.2, nI_clamp (by omega), show nI x + Int32.ofInt 1 = nI (x + 1) from nI_add x 1]
    refine mi_69 hg hm elem c (x + 1) _ (by omega) (MEc_zi hK (by omega)) (FM_tr (P'' := P12) hF (FM_zi (P := P12) ⟨by omega, by omega⟩) (fun _ _ z => z) (fun _ _ z => z)) (fun i hi => ?_) hQ
    rw [zi_get]
    by_cases z : i = x
    · rw [if_pos ⟨rfl, z⟩, z]
    · rw [if_neg (by omega)]
      exact h1 i (by omega)
theorem mi_113 (hw : w ≤ 32) : ∀ (c x : Nat) (B : zS), x + c = w → MEc T B → FM (fun c i => c = 146 ∧ i < 40) B0 B → (∀ i, i < w → B.1 123 i = X i) → (∀ i, i < x → B.1 146 i = X i) → (∀ B', MEc T B' → FM (fun c i => c = 146 ∧ i < 40) B0 B' → (∀ i, i < w → B'.1 146 i = X i) → zW l Gr (zc n w) 168 M_Mo_indexed (d + 5) 139 [some (.ref 105), some (.int (nI j)), some (.int (nI m)), none, none, none] [] B' Q) → zW l Gr (zc n w) 168 M_Mo_indexed (d + 5) 113 [some (.ref 105), some (.int (nI j)), some (.int (nI m)), some (.int (nI x)), none, none] [] B Q
  | 0, x, B, h, hK, hF, h0, h1, hQ => b_Mo_indexed_113 (fun _ => hQ B hK hF (fun i hi => h1 i (by omega))) (fun z => absurd (nI_le (a := w) (b := x) (by omega) (by omega)) z)
  | c + 1, x, B, h, hK, hF, h0, h1, hQ => by
    refine b_Mo_indexed_113 (fun z => absurd z (nI_ge (a := x) (b := w) (by omega) (by omega))) (fun _ => b_Mo_indexed_121 (vp_in_nI (by omega) (by omega)) ?_)
    rw [nI_clamp (by omega), show nI x + Int32.ofInt 1 = nI (x + 1) from nI_add x 1, h0 x (by omega)]
    refine mi_113 hw c (x + 1) _ (by omega) (MEc_zi hK (by omega)) (FM_tr (P'' := fun c i => c = 146 ∧ i < 40) hF (FM_zi (P := fun c i => c = 146 ∧ i < 40) ⟨rfl, by omega⟩) (fun _ _ z => z) (fun _ _ z => z)) (fun i hi => by rw [zi_c (by decide)]; exact h0 i hi) (fun i hi => ?_) hQ
    rw [zi_get]
    by_cases z : i = x
    · rw [if_pos ⟨rfl, z⟩, z]
    · rw [if_neg (by omega)]
      exact h1 i (by omega)
theorem mi_141 (hm : m ≤ 32) : ∀ (c x : Nat) (B : zS), x + c = m → MEc T B → FM P12 B0 B → (∀ i, i < x → B.1 125 i = -2) → (∀ B', MEc T B' → FM P12 B0 B' → (∀ i, i < m → B'.1 125 i = -2) → zW l Gr (zc n w) 168 M_Mo_indexed (d + 5) 160 [some (.ref 105), some (.int (nI j)), some (.int (nI m)), none, none, none] [] B' Q) → zW l Gr (zc n w) 168 M_Mo_indexed (d + 5) 141 [some (.ref 105), some (.int (nI j)), some (.int (nI m)), some (.int (nI x)), none, none] [] B Q
  | 0, x, B, h, hK, hF, h1, hQ => b_Mo_indexed_141 (fun _ => hQ B hK hF (fun i hi => h1 i (by omega))) (fun z => absurd (nI_le (a := m) (b := x) (by omega) (by omega)) z)
  | c + 1, x, B, h, hK, hF, h1, hQ => by
    refine b_Mo_indexed_141 (fun z => absurd z (nI_ge (a := x) (b := m) (by omega) (by omega))) (fun _ => b_Mo_indexed_146 (vp_in_nI (by omega) (by omega)) ?_)
    rw [nI_clamp (by omega), show nI x + Int32.ofInt 1 = nI (x + 1) from nI_add x 1]
    refine mi_141 hm c (x + 1) _ (by omega) (MEc_zi hK (by omega)) (FM_tr (P'' := P12) hF (FM_zi (P := P12) ⟨by omega, by omega⟩) (fun _ _ z => z) (fun _ _ z => z)) (fun i hi => ?_) hQ
    rw [zi_get]
    by_cases z : i = x
    · rw [if_pos ⟨rfl, z⟩]
    · rw [if_neg (by omega)]
      exact h1 i (by omega)
theorem mi_182 (hg : ip_gk (lg_tbl, vwCl, Gr)) (hm : m ≤ 32) {L R : Nat → Int32} (elem : ∀ (x : Nat) (B : zS), x < m → FM P12 B0 B → zMi l Gr (zc n w) 168 M_Mo_elementBit (d + 4) [.ref 105, .int (nI j), .int (nI k), .int (nI x)] B (fun u B' => u = L x ∧ B' = B)) : ∀ (c x : Nat) (T B : zS), x + c = m → MEc T B → MW T → VC T e → (∀ j, VC T (L j)) → (∀ j, VC T (R j)) → FM P12 B0 B → (∀ i, x ≤ i → i < m → B.1 125 i = R i) → (∀ B', MEc ((rowP e L R c x).2 T).2 B' → FM P12 B0 B' → (∀ i, i < c → B'.1 125 (x + i) = ((rowP e L R c x).2 T).1.getD i (-2)) → (∀ i, i < x → B'.1 125 i = B.1 125 i) → zW l Gr (zc n w) 168 M_Mo_indexed (d + 5) 226 [some (.ref 105), some (.int (nI j)), some (.int (nI m)), some (.int (nI k)), none, none] [] B' Q) → zW l Gr (zc n w) 168 M_Mo_indexed (d + 5) 182 [some (.ref 105), some (.int (nI j)), some (.int (nI m)), some (.int (nI k)), some (.int e), some (.int (nI x))] [] B Q
  | 0, x, T, B, h, hK, hW, he, hL, hR, hF, h1, hQ => b_Mo_indexed_182 (fun _ => hQ B hK hF (fun i hi => absurd hi (by omega)) (fun _ _ => rfl)) (fun z => absurd (nI_le (a := m) (b := x) (by omega) (by omega)) z)
  | c + 1, x, T, B, h, hK, hW, he, hL, hR, hF, h1, hQ => by
    have o1 := m_op (b := true) hW he (hL x)
    have o2 := m_op (b := false) (MOK_W o1.1) (VC_m o1.1 (hR x)) o1.2.1
    refine b_Mo_indexed_182 (fun z => absurd z (nI_ge (a := x) (b := m) (by omega) (by omega))) (fun _ => b_Mo_indexed_188 hg (vp_in_nI (by omega) (by omega)) (elem x B (by omega) hF) (fun u B1 k1 => ?_))
    rw [k1.1, k1.2, nI_clamp (by omega), h1 x (Nat.le_refl _) (by omega)]
    refine b_Mo_indexed_213 hg (wm_andK (d := d + 2) hg hK hW he (hL x)) (fun v2 B2 k2 => ?_)
    obtain ⟨ev2, K2, F2⟩ := k2
    subst ev2
    refine b_Mo_indexed_216 hg (wm_xorK (d := d + 2) hg K2 (MOK_W o1.1) (VC_m o1.1 (hR x)) o1.2.1) (fun v3 B3 k3 => ?_)
    obtain ⟨ev3, K3, F3⟩ := k3
    subst ev3
    refine b_Mo_indexed_219 (vp_in_nI (by omega) (by omega)) ?_
    rw [nI_clamp (by omega), show nI x + Int32.ofInt 1 = nI (x + 1) from nI_add x 1]
    have f125 : ∀ i, B3.1 125 i = B.1 125 i := fun i => (F3.1 125 i (by omega) (by omega)).trans (F2.1 125 i (by omega) (by omega))
    have FF : FM P12 B0 (zi B3 125 x (mOp false (mOp true T e (L x)).2 (R x) (mOp true T e (L x)).1).1) := FM_tr (P'' := P12) hF (FM_tr (P'' := P12) (FM_x (P := P12) F2) (FM_tr (P'' := P12) (FM_x (P := P12) F3) (FM_zi (P := P12) ⟨by omega, by omega⟩) (fun _ _ z => z) (fun _ _ z => z)) (fun _ _ z => z) (fun _ _ z => z)) (fun _ _ z => z) (fun _ _ z => z)
    refine mi_182 hg hm elem c (x + 1) _ _ (by omega) (MEc_zi K3 (by omega)) (MOK_W o2.1) (VC_m o2.1 (VC_m o1.1 he)) (fun j => VC_m o2.1 (VC_m o1.1 (hL j))) (fun j => VC_m o2.1 (VC_m o1.1 (hR j))) FF (fun i q1 q2 => ?_) (fun B' e1 e2 e3 e4 => hQ B' e1 e2 (fun i hi => ?_) (fun i hi => ?_))
    · rw [zi_get, if_neg (by omega), f125]
      exact h1 i (by omega) q2
    · cases i with
      | zero => exact (e4 (x + 0) (by omega)).trans zi_v
      | succ i => exact (congrArg (B'.1 125) (by omega)).trans (e3 i (by omega))
    · rw [e4 i (by omega), zi_get, if_neg (by omega), f125]
theorem mi_162 (hg : ip_gk (lg_tbl, vwCl, Gr)) (hw : w ≤ 32) (hw1 : 1 ≤ w) (hm : m ≤ 32) (hj : j < 12000) (hz : z ≤ 64) (h104 : B0.1 104 j = nI z) (h146 : ∀ i, i < w → B0.1 146 i = X i) (elem : ∀ (k x : Nat) (B : zS), k < z → x < m → FM P12 B0 B → zMi l Gr (zc n w) 168 M_Mo_elementBit (d + 4) [.ref 105, .int (nI j), .int (nI k), .int (nI x)] B (fun u B' => u = L k x ∧ B' = B)) : ∀ (c k : Nat) (R : Nat → Int32) (T B : zS), k + c = z → MEc T B → MW T → (∀ j, VC T (X j)) → (∀ k j, VC T (L k j)) → (∀ j, VC T (R j)) → FM P12 B0 B → (∀ i, i < m → B.1 125 i = R i) → (∀ B', MEc ((eltP w m X L c k R).2 T).2 B' → FM P12 B0 B' → (∀ i, i < m → B'.1 125 i = ((eltP w m X L c k R).2 T).1 i) → zW l Gr (zc n w) 168 M_Mo_indexed (d + 5) 232 [some (.ref 105), none, some (.int (nI m)), none, none, none] [] B' Q) → zW l Gr (zc n w) 168 M_Mo_indexed (d + 5) 162 [some (.ref 105), some (.int (nI j)), some (.int (nI m)), some (.int (nI k)), none, none] [] B Q
  | 0, k, R, T, B, h, hK, hW, hX, hL, hR, hF, h1, hQ => b_Mo_indexed_162 (vp_in_nI hj (by omega)) (fun _ => hQ B hK hF h1) (fun q => absurd (by rw [nI_clamp (by omega), hF.1 104 j (by omega) (by omega) (by unfold P12; omega), h104]; exact nI_le (by omega) (by omega)) q)
  | c + 1, k, R, T, B, h, hK, hW, hX, hL, hR, hF, h1, hQ => by
    have o1 := m_run hW (W_idx (v := k) (w := w) hX)
    refine b_Mo_indexed_162 (vp_in_nI hj (by omega)) (fun q => absurd q (by rw [nI_clamp (by omega), hF.1 104 j (by omega) (by omega) (by unfold P12; omega), h104]; exact nI_ge (by omega) (by omega))) (fun _ => b_Mo_indexed_172 hg (wm_isIndex hg hw hw1 (by omega) hK hW hX (fun i hi => by rw [hF.1 146 i (by omega) (by omega) (by unfold P12; omega)]; exact h146 i hi)) (fun v B1 k1 => b_Mo_indexed_177 ?_))
    obtain ⟨ev, K1, F1⟩ := k1
    subst ev
    have FF : FM P12 B0 B1 := FM_tr (P'' := P12) hF F1 (fun _ _ z => z) (fun c i z => by unfold P12; omega)
    have f1 : ∀ i, i < m → B1.1 125 i = R i := fun i hi => by rw [F1.1 125 i (by omega) (by omega) (by omega)]; exact h1 i hi
    have r2 := m_run (MOK_W o1.1) (W_row (L := L k) (R := R) m 0 _ o1.2.1 (fun j => VC_m o1.1 (hL k j)) (fun j => VC_m o1.1 (hR j)))
    refine mi_182 (L := L k) (R := R) hg hm (fun x B hx hF => elem k x B (by omega) hx hF) m 0 _ B1 (by omega) K1 (MOK_W o1.1) o1.2.1 (fun j => VC_m o1.1 (hL k j)) (fun j => VC_m o1.1 (hR j)) FF (fun i _ hi => f1 i hi) (fun B2 e1 e2 e3 e4 => b_Mo_indexed_226 ?_)
    rw [show nI k + Int32.ofInt 1 = nI (k + 1) from nI_add k 1]
    exact mi_162 hg hw hw1 hm hj hz h104 h146 elem c (k + 1) _ _ B2 (by omega) e1 (MOK_W r2.1) (fun j => VC_m r2.1 (VC_m o1.1 (hX j))) (fun k j => VC_m r2.1 (VC_m o1.1 (hL k j))) r2.2.1 e2 (fun i hi => by have := e3 i hi; rw [Nat.zero_add] at this; exact this) hQ
theorem wm_idxN (hg : ip_gk (lg_tbl, vwCl, Gr)) (hw : w ≤ 32) (hw1 : 1 ≤ w) (hq : q < 4200) (hj : j < 12000) (hr : r ≤ 1) (hm : m = if r = 1 then 1 else w) (hz : z ≤ 64) (h104 : B.1 104 j = nI z) (h105 : B.1 105 j = nI r) (h107 : B.1 107 j = 0) (h85 : B.1 73 85 = nI (q + 1)) (hW : MW B) (vX : ∀ j, VC B (X j)) (vL : ∀ k j, VC B (L k j)) (hX : ∀ i, i < w → B.1 122 (32 * q + i) = X i) (elem : ∀ (k x : Nat) (B' : zS), k < z → x < m → FM (PUe q) B B' → zMi l Gr (zc n w) 168 M_Mo_elementBit (d + 4) [.ref 105, .int (nI j), .int (nI k), .int (nI x)] B' (fun u B'' => u = L k x ∧ B'' = B')) : zMv l Gr (zc n w) 168 M_Mo_indexed (d + 5) [.ref 105, .int (nI j)] B (fun B' => OPe ((eltP w m X L z 0 (fun _ => -2)).2 B).2 B B' q m ((eltP w m X L z 0 (fun _ => -2)).2 B).1) := by
  have hm2 : m ≤ 32 := by rw [hm]; split <;> omega
  have c0 : ((nI j : Int32)).toNatClampNeg = j := nI_clamp (by omega)
  refine e_Mo_indexed (b_Mo_indexed_0 hg (vp_in_nI hj (by omega)) wm_width (fun v B1 k1 => ?_))
  obtain ⟨ev, e1⟩ := k1
  subst e1
  have ev : v = nI m := by
    rw [ev, c0, h105, hm]
    by_cases z : r = 1
    · rw [if_pos z, if_neg (by rw [z]; decide)]
      rfl
    · rw [if_neg z, if_pos (by rw [show r = 0 by omega]; rfl)]
  rw [ev]
  refine b_Mo_indexed_10 (vp_in_nI hj (by omega)) (fun _ => b_Mo_indexed_103 hg (wm_popX (T := B1) (X := X) hw hq MEc_rfl h85 hX) (fun B2 k2 => b_Mo_indexed_111 ?_)) (fun y => absurd (by rw [c0]; exact h107) y)
  refine mi_113 (X := X) hw w 0 B2 (by omega) k2.1 (FM_rfl (P := fun c i => c = 146 ∧ i < 40)) k2.2.2.2 (fun i hi => absurd hi (by omega)) (fun B3 e1 e2 e3 => b_Mo_indexed_139 ?_)
  have F3 : FM (PUe q) B1 B3 := FM_tr (P'' := PUe q) k2.2.1 e2 (fun c i z => by unfold PUe; omega) (fun c i z => by unfold PUe; omega)
  have b85 : B3.1 73 85 = nI q := by rw [e2.1 73 85 (by omega) (by omega) (by omega)]; exact k2.2.2.1
  refine mi_141 (B0 := B3) hm2 m 0 B3 (by omega) e1 FM_rfl (fun i hi => absurd hi (by omega)) (fun B4 d1 d2 d3 => b_Mo_indexed_160 ?_)
  refine mi_162 (B0 := B3) (X := X) (L := L) hg hw hw1 hm2 hj hz (by rw [F3.1 104 j (by omega) (by omega) (by unfold PUe; omega)]; exact h104) e3 (fun k x B' hk hx hF => elem k x B' hk hx (FM_tr (P'' := PUe q) F3 hF (fun _ _ z => z) (fun c i z => by unfold P12 at z; unfold PUe; omega))) z 0 (fun _ => -2) B1 B4 (by omega) d1 hW vX vL (fun _ => VC_c2) d2 d3 (fun B5 f1 f2 f3 => ?_)
  refine b_Mo_indexed_232 hg (wm_pushZ hm2 hq f1 (by rw [f2.1 73 85 (by omega) (by omega) (by unfold P12; omega)]; exact b85) f3) (fun B6 k6 => b_Mo_indexed_237 ⟨rfl, k6.1, ?_, k6.2.2.1, k6.2.2.2⟩)
  exact FM_tr (P'' := PUe q) F3 (FM_tr (P'' := PUe q) f2 k6.2.1 (fun c i z => by unfold P12 at z; unfold PUe; omega) (fun c i z => by unfold PUe; omega)) (fun _ _ z => z) (fun _ _ z => z)
theorem wm_idxP (hg : ip_gk (lg_tbl, vwCl, Gr)) (hw : w ≤ 32) (hw1 : 1 ≤ w) (hq : q < 4200) (hj : j < 12000) (hr : r ≤ 1) (hm : m = if r = 1 then 1 else w) (hz : z ≤ 64) (h104 : B.1 104 j = nI z) (h105 : B.1 105 j = nI r) (h107 : ¬ B.1 107 j = 0) (h85 : B.1 73 85 = nI (q + 1)) (hX : ∀ i, i < w → B.1 122 (32 * q + i) = X i) (elem : ∀ (x : Nat) (B' : zS), nvb (xbo X) w 0 < z → x < m → FM (PUe q) B B' → zMi l Gr (zc n w) 168 M_Mo_elementBit (d + 4) [.ref 105, .int (nI j), .int (nI (nvb (xbo X) w 0)), .int (nI x)] B' (fun u B'' => u = F x ∧ B'' = B')) : zMv l Gr (zc n w) 168 M_Mo_indexed (d + 5) [.ref 105, .int (nI j)] B (fun B' => (nvb (xbo X) w 0 < z → OPe B B B' q m F) ∧ (¬ nvb (xbo X) w 0 < z → B' = mT B 7 (B.1 106 j))) := by
  have hm2 : m ≤ 32 := by rw [hm]; split <;> omega
  have c0 : ((nI j : Int32)).toNatClampNeg = j := nI_clamp (by omega)
  have e85 : B.1 73 85 - 1 = nI q := by rw [h85, nI_pred]
  have cm : lg_cmp (Int64.ofNat (nvb (xbo X) w 0)) ((nI z : Int32)).toInt64 < 0 ↔ nvb (xbo X) w 0 < z := by
    rw [lg_cmp_lt, show ((nI z : Int32)).toInt64 = Int64.ofNat z from i64_n (by omega)]
    exact i64_lt (by have := nvb_62 (xb := xbo X) hw; omega) (by omega)
  refine e_Mo_indexed (b_Mo_indexed_0 hg (vp_in_nI hj (by omega)) wm_width (fun v B1 k1 => ?_))
  obtain ⟨ev, e1⟩ := k1
  subst e1
  have ev : v = nI m := by
    rw [ev, c0, h105, hm]
    by_cases z : r = 1
    · rw [if_pos z, if_neg (by rw [z]; decide)]
      rfl
    · rw [if_neg z, if_pos (by rw [show r = 0 by omega]; rfl)]
  rw [ev]
  refine b_Mo_indexed_10 (vp_in_nI hj (by omega)) (fun y => absurd (by rw [c0] at y; exact y) h107) (fun _ => b_Mo_indexed_20 hg (R := fun v B' => v = Int64.ofNat (nvb (xbo X) w 0) ∧ B' = B1) (by rw [e85]; exact wm_worth hw hq hX) (fun v B2 k2 => ?_))
  rw [k2.1, k2.2]
  refine b_Mo_indexed_30 (vp_in_nI hj (by omega)) (fun y => ?_) (fun y => ?_)
  · rw [c0, h104] at y
    have hv := cm.mp y
    refine b_Mo_indexed_56 ?_
    rw [e85]
    have F3 : FM (PUe q) B1 (zi B1 73 85 (nI q)) := FM_zi (P := PUe q) (Or.inl ⟨rfl, rfl⟩)
    refine mi_69 (B0 := zi B1 73 85 (nI q)) (T := B1) (v := nvb (xbo X) w 0) (F := F) hg hm2 (fun x B' hx hF => elem x B' hv hx (FM_tr (P'' := PUe q) F3 hF (fun _ _ z => z) (fun c i z => by unfold P12 at z; unfold PUe; omega))) m 0 _ (by omega) (MEc_85 MEc_rfl) FM_rfl (fun i hi => absurd hi (by omega)) (fun B5 f1 f2 f3 => ?_)
    refine b_Mo_indexed_97 hg (wm_pushZ hm2 hq f1 (by rw [f2.1 73 85 (by omega) (by omega) (by unfold P12; omega), zi_get, if_pos ⟨rfl, rfl⟩]) f3) (fun B6 k6 => b_Mo_indexed_102 ⟨rfl, fun _ => ⟨k6.1, ?_, k6.2.2.1, k6.2.2.2⟩, fun q => absurd hv q⟩)
    exact FM_tr (P'' := PUe q) F3 (FM_tr (P'' := PUe q) f2 k6.2.1 (fun c i z => by unfold P12 at z; unfold PUe; omega) (fun c i z => by unfold PUe; omega)) (fun _ _ z => z) (fun _ _ z => z)
  · rw [c0, h104] at y
    have hv := fun q => y (cm.mpr q)
    exact b_Mo_indexed_43 hg (vp_in_nI hj (by omega)) wm_fl (fun B' k => b_Mo_indexed_55 ⟨rfl, fun q => absurd q hv, fun _ => by rw [k, c0]⟩)
end IND
