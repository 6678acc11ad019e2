/-! if: the reference's instruction 37 -/
section IFX
variable {l : Launch} {Gr : zG} {n w : Nat} {d : Nat} {B : zS} {e : Int32} {V L : Nat → Int32} {u t nv q j : Nat} {vb vq vt : Nat → Nat}
/-- behind endOfIf() -/
def IFr (w u nv : Nat) (vb vq vt : Nat → Nat) (e : Int32) (V L : Nat → Int32) (B B' : zS) : Prop := MEc ((dmxP e V L (256 * w) 0 L).2 B).2 B' ∧ (∀ c i, ¬ (c = 73 ∧ (i = 7 ∨ i = 8 ∨ i = 66 ∨ i = 67 ∨ i = 68 ∨ i = 97 ∨ i = 101)) → ¬ (111 ≤ c ∧ c ≤ 114) → ¬ c = 132 → ¬ (c = 140 ∧ 8192 * u ≤ i ∧ i < 8192 * u + 8192) → B'.1 c i = B.1 c i) ∧ (∀ c i, B'.2 c i = B.2 c i) ∧ B'.1 73 97 = nI nv ∧ B'.1 73 101 = nI u ∧ (∀ t W x, t < nv → vb t ≤ W → W < vb t + vq t → x < vt t → B'.1 132 (32 * W + x) = ((dmxP e V L (256 * w) 0 L).2 B).1 (W * w + x)) ∧ ∀ i, (∀ t, t < nv → ¬ (32 * vb t ≤ i ∧ i < 32 * (vb t + vq t))) → B'.1 132 i = B.1 132 i
theorem ms_37 (hg : ip_gk (lg_tbl, vwCl, Gr)) (hw : w ≤ 32) (hw1 : 1 ≤ w) (hj : j < 12000) (hu : u < 40) (hnv : nv ≤ 256) (h78 : B.1 78 j = 37) (h101 : B.1 73 101 = nI (u + 1)) (h137 : B.1 137 u = nI nv) (h136 : B.1 136 u = e) (hv : ∀ t, t < nv → B.1 133 t = nI (vb t) ∧ B.1 134 t = nI (vq t) ∧ B.1 135 t = nI (vt t) ∧ vb t + vq t ≤ 256 ∧ vt t ≤ w) (hso : ∀ t, t + 1 < nv → vb t + vq t ≤ vb (t + 1)) (hM : MW B) (ve : VC B e) (hV : ∀ t W x, t < nv → vb t ≤ W → W < vb t + vq t → x < vt t → (¬ B.1 138 u = 0 → B.1 140 (8192 * u + 32 * W + x) = V (W * w + x) ∧ B.1 132 (32 * W + x) = L (W * w + x)) ∧ (B.1 138 u = 0 → B.1 132 (32 * W + x) = V (W * w + x) ∧ B.1 139 (8192 * u + 32 * W + x) = L (W * w + x)) ∧ CNl (L (W * w + x)) ∧ VC B (V (W * w + x)) ∧ VC B (L (W * w + x))) (hgap : ∀ W x, W < 256 → x < w → (∀ t, t < nv → ¬ (vb t ≤ W ∧ W < vb t + vq t ∧ x < vt t)) → V (W * w + x) = L (W * w + x)) : zMi l Gr (zc n w) 168 M_Mo_statement (d + 7) [.ref 105, .int (nI j)] B (fun v B' => v = nI (j + 1) ∧ IFr w u nv vb vq vt e V L B B') := by
  have e101 : B.1 73 101 - 1 = nI u := by rw [h101, nI_pred]
  have cu : ((nI u : Int32)).toNatClampNeg = u := nI_clamp (by omega)
  have f : ∀ c i, ¬ (c = 73 ∧ (i = 97 ∨ i = 101)) → (zi (zi B 73 101 (nI u)) 73 97 (nI nv)).1 c i = B.1 c i := fun c i q1 => by rw [zi_get, if_neg (by omega), zi_get, if_neg (by omega)]
  have h97 : (zi (zi B 73 101 (nI u)) 73 97 (nI nv)).1 73 97 = nI nv := zi_v
  have h101' : (zi (zi B 73 101 (nI u)) 73 97 (nI nv)).1 73 101 = nI u := by rw [zi_k (by decide)]; exact zi_v
  have hv' : ∀ t, t < nv → (zi (zi B 73 101 (nI u)) 73 97 (nI nv)).1 133 t = nI (vb t) ∧ (zi (zi B 73 101 (nI u)) 73 97 (nI nv)).1 134 t = nI (vq t) ∧ vb t + vq t ≤ 256 := fun t ht => by rw [f 133 t (by omega), f 134 t (by omega)]; exact ⟨(hv t ht).1, (hv t ht).2.1, (hv t ht).2.2.2.1⟩
  have core : ∀ B0 : zS, (∀ c i, ¬ c = 132 → ¬ (c = 140 ∧ 8192 * u ≤ i ∧ i < 8192 * u + 8192) → B0.1 c i = (zi (zi B 73 101 (nI u)) 73 97 (nI nv)).1 c i) → (∀ c i, B0.2 c i = B.2 c i) → (∀ t W x, t < nv → vb t ≤ W → W < vb t + vq t → x < vt t → B0.1 140 (8192 * u + 32 * W + x) = V (W * w + x) ∧ B0.1 132 (32 * W + x) = L (W * w + x)) → (∀ i, (∀ t, t < nv → ¬ (32 * vb t ≤ i ∧ i < 32 * (vb t + vq t))) → B0.1 132 i = B.1 132 i) → zW l Gr (zc n w) 168 M_Mo_endOfIf (d + 6) 52 [some (.ref 105), some (.int (nI u)), none, none, none] [] B0 (fun v B' => v = none ∧ IFr w u nv vb vq vt e V L B B') := fun B0 g1 g2 g3 g4 => by
    have g : ∀ c i, ¬ (c = 73 ∧ (i = 97 ∨ i = 101)) → ¬ c = 132 → ¬ (c = 140 ∧ 8192 * u ≤ i ∧ i < 8192 * u + 8192) → B0.1 c i = B.1 c i := fun c i q1 q2 q3 => (g1 c i q2 q3).trans (f c i q1)
    have M0 : MEc B B0 := ⟨fun k q => g 73 k (by omega) (by omega) (by omega), fun c k q => g c k (by omega) (by omega) (by omega)⟩
    have := if_54 (l := l) (Gr := Gr) (n := n) (d := d + 1) (T0 := B) (B0 := B0) (e := e) (V := V) (L := L) (vb := vb) (vq := vq) (vt := vt) (nv := nv) (u := u) (Q := fun v B' => v = none ∧ IFr w u nv vb vq vt e V L B B') hg hw hw1 hu hnv ((g1 73 97 (by omega) (by omega)).trans h97) (fun t ht => by rw [g 133 t (by omega) (by omega) (by omega), g 134 t (by omega) (by omega) (by omega), g 135 t (by omega) (by omega) (by omega)]; exact hv t ht) hso ((g 136 u (by omega) (by omega) (by omega)).trans h136) (fun t W x q1 q2 q3 q4 => ⟨(g3 t W x q1 q2 q3 q4).1, (hV t W x q1 q2 q3 q4).2.2⟩) ve hgap nv 0 0 L B B0 (by omega) (by omega) (fun _ => Nat.zero_le _) (fun t' q => absurd q (by omega)) M0 hM (fun _ h => h) rfl FM_rfl (fun t' W y _ q2 q3 q4 q5 => ⟨(g3 t' W y q2 q3 q4 q5).2, rfl⟩)
    rw [Nat.sub_zero, Nat.zero_mul] at this
    refine b_Mo_endOfIf_52 (this (fun B' b1 b2 b3 b4 => ⟨rfl, b1, fun c i q1 q2 q3 q4 => ?_, fun c i => (b2.2 c i).trans (g2 c i), ?_, ?_, fun t W x q1 q2 q3 q4 => b3 t W x (Nat.zero_le _) q1 q2 q3 q4, fun i hi => ?_⟩))
    · rw [b2.1 c i (by omega) q2 q3]
      exact g c i (by omega) q3 q4
    · rw [b2.1 73 97 (by omega) (by omega) (by omega), g1 73 97 (by omega) (by omega)]
      exact h97
    · rw [b2.1 73 101 (by omega) (by omega) (by omega), g1 73 101 (by omega) (by omega)]
      exact h101'
    · rw [b4 i (fun t' _ q => hi t' q)]
      exact g4 i hi
  refine e_Mo_statement (ms_0 (d := d + 1) (z := 37) hj h78 (by omega) (by omega) (by omega) (by omega) (by omega) (by omega) (by omega) (by omega) (by omega) (by omega) (by omega) (fun _ => b_Mo_statement_599 hg (R := fun B' => IFr w u nv vb vq vt e V L B B') ?_ (fun B' k => b_Mo_statement_603 (ms_end (d := d + 1) k))) (by omega) (by omega) (by omega) (by omega))
  refine e_Mo_endOfIf (b_Mo_endOfIf_0 (by rw [e101]; exact vp_in_nI (by omega) (by omega)) (fun y => ?_) (fun y => ?_))
  · rw [e101, cu, h137]
    rw [e101, cu] at y
    exact core _ (fun _ _ _ _ => rfl) (fun _ _ => rfl) (fun t W x q1 q2 q3 q4 => by rw [f 140 _ (by omega), f 132 _ (by omega)]; exact (hV t W x q1 q2 q3 q4).1 y) (fun i _ => f 132 i (by omega))
  · rw [e101, cu, h137]
    rw [e101, cu] at y
    refine b_Mo_endOfIf_34 hg (wm_keep2 (nv := nv) (vb := vb) (vq := vq) hu hnv h97 hv') (fun B1 k1 => b_Mo_endOfIf_43 hg (wm_bring (nv := nv) (vb := vb) (vq := vq) hu hnv ((k1.1.1 73 97 (by omega)).trans h97) (fun t ht => by rw [k1.1.1 133 t (by omega), k1.1.1 134 t (by omega)]; exact hv' t ht)) (fun B2 k2 => ?_))
    have I := IFt_of k1 k2
    refine core B2 I.1 I.2.1 (fun t W x q1 q2 q3 q4 => ?_) (fun i hi => (I.2.2.2 i hi).trans (f 132 i (by omega)))
    have h32 : vt t ≤ 32 := by have := (hv t q1).2.2.2.2; omega
    have i1 := I.2.2.1 t (32 * W + x) q1 (by omega) (by omega)
    have i2 := (hV t W x q1 q2 q3 q4).2.1 y
    rw [← Nat.add_assoc] at i1
    rw [f 132 _ (by omega), f 139 _ (by omega)] at i1
    exact ⟨i1.1.trans i2.1, i1.2.trans i2.2⟩
end IFX
