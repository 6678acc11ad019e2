/-! if: the reference's endOfIf(), a word's cells -/
section IFE
variable {l : Launch} {Gr : zG} {n w : Nat} {d : Nat} {S A A0 T0 B0 : zS} {e : Int32} {V L : Nat → Int32} {Q : Option Value → zS → Prop} {u t W nv : Nat} {vb vq vt : Nat → Nat}
theorem dmx_om : ∀ (c k : Nat) (R : Nat → Int32) (T : zS) (i : Nat), ¬ (k ≤ i ∧ i < k + c) → ((dmxP e V L c k R).2 T).1 i = R i
  | 0, _, _, _, _, _ => rfl
  | c + 1, k, R, T, i, h => by
    rw [show dmxP e V L (c + 1) k R = if V k = L k then dmxP e V L c (k + 1) R else cBind (muxP e (V k) (L k)) fun o => dmxP e V L c (k + 1) (fun k' => if k' = k then o else R k') from rfl]
    by_cases y : V k = L k
    · rw [if_pos y]
      exact dmx_om c (k + 1) R T i (by omega)
    · rw [if_neg y]
      refine (dmx_om c (k + 1) (fun k' => if k' = k then ((muxP e (V k) (L k)).2 T).1 else R k') ((muxP e (V k) (L k)).2 T).2 i (by omega)).trans ?_
      show (if i = k then _ else R i) = R i
      rw [if_neg (by omega)]
theorem if_89 (hg : ip_gk (lg_tbl, vwCl, Gr)) (hw : w ≤ 32) (hu : u < 40) (ht : t < 256) (hW : W < 256) (hvt : vt t ≤ w) (h135 : B0.1 135 t = nI (vt t)) (h136 : B0.1 136 u = e) (hV : ∀ x, x < vt t → B0.1 140 (8192 * u + 32 * W + x) = V (W * w + x)) (hC : ∀ x, x < vt t → CNl (L (W * w + x))) (ve : VC T0 e) (vV : ∀ x, x < vt t → VC T0 (V (W * w + x)) ∧ VC T0 (L (W * w + x))) : ∀ (c x : Nat) (R : Nat → Int32) (T B : zS), x + c = vt t → MEc T B → MW T → VM T0 T → mPla T = mPla T0 → FM (fun c _ => c = 132) B0 B → (∀ y, x ≤ y → y < vt t → B.1 132 (32 * W + y) = L (W * w + y) ∧ R (W * w + y) = L (W * w + y)) → (∀ B', MEc ((dmxP e V L c (W * w + x) R).2 T).2 B' → MW ((dmxP e V L c (W * w + x) R).2 T).2 → VM T0 ((dmxP e V L c (W * w + x) R).2 T).2 → mPla ((dmxP e V L c (W * w + x) R).2 T).2 = mPla T0 → FM (fun c _ => c = 132) B0 B' → (∀ y, x ≤ y → y < vt t → B'.1 132 (32 * W + y) = ((dmxP e V L c (W * w + x) R).2 T).1 (W * w + y)) → (∀ i, ¬ (32 * W + x ≤ i ∧ i < 32 * W + vt t) → B'.1 132 i = B.1 132 i) → zW l Gr (zc n w) 168 M_Mo_endOfIf (d + 5) 158 [some (.ref 105), some (.int (nI u)), some (.int (nI t)), some (.int (nI W)), none] [] B' Q) → zW l Gr (zc n w) 168 M_Mo_endOfIf (d + 5) 89 [some (.ref 105), some (.int (nI u)), some (.int (nI t)), some (.int (nI W)), some (.int (nI x))] [] B Q := by
  have ct : ((nI t : Int32)).toNatClampNeg = t := nI_clamp (by omega)
  have cu : ((nI u : Int32)).toNatClampNeg = u := nI_clamp (by omega)
  intro c
  induction c with
  | zero =>
    intro x R T B h hK hM hVM hp hF h1 hQ
    exact b_Mo_endOfIf_89 (vp_in_nI (by omega) (by omega)) (fun _ => hQ B hK hM hVM hp hF (fun y q1 q2 => absurd q1 (by omega)) (fun _ _ => rfl)) (fun y => absurd (by rw [ct, hF.1 135 t (by omega) (by omega) (by omega), h135]; exact nI_le (by omega) (by omega)) y)
  | succ c ih =>
    intro x R T B h hK hM hVM hp hF h1 hQ
    have e1 : 8192 * nI u + 32 * nI W + nI x = nI (8192 * u + 32 * W + x) := by rw [nI_8192, nI_mul32, nI_add, nI_add]
    have e2 : 32 * nI W + nI x = nI (32 * W + x) := by rw [nI_mul32, nI_add]
    have v0 := vV x (by omega)
    have o1 := m_run hM (W_mux (hVM _ ve) (hVM _ v0.1) (hVM _ v0.2))
    have dm := dmx_m (e := e) (V := V) (L := L) (c := c) (k := W * w + x) (R := R) (T := T) (hC x (by omega)) (h1 x (Nat.le_refl _) (by omega)).2
    rw [dm] at hQ
    refine b_Mo_endOfIf_89 (vp_in_nI (by omega) (by omega)) (fun y => absurd (by rw [ct, hF.1 135 t (by omega) (by omega) (by omega), h135] at y; exact y) (nI_ge (by omega) (by omega))) (fun _ => b_Mo_endOfIf_100 hg (R := fun v B' => v = ((muxP e (V (W * w + x)) (L (W * w + x))).2 T).1 ∧ MEc ((muxP e (V (W * w + x)) (L (W * w + x))).2 T).2 B' ∧ KXm B B') (vp_in_nI (by omega) (by omega)) (by rw [e1]; exact vp_in_nI (by omega) (by omega)) (by rw [e2]; exact vp_in_nI (by omega) (by omega)) (by
      rw [e1, e2, cu, nI_clamp (by omega), nI_clamp (by omega), hF.1 136 u (by omega) (by omega) (by omega), h136, hF.1 140 _ (by omega) (by omega) (by omega), hV x (by omega), (h1 x (Nat.le_refl _) (by omega)).1]
      exact wm_muxK (d := d + 1) hg hK hM (hVM _ ve) (hVM _ v0.1) (hVM _ v0.2)) (fun v B1 k1 => ?_))
    obtain ⟨ev, K1, F1⟩ := k1
    subst ev
    rw [e2]
    refine b_Mo_endOfIf_151 (vp_in_nI (by omega) (by omega)) ?_
    rw [nI_clamp (by omega), show nI x + Int32.ofInt 1 = nI (x + 1) from nI_add x 1]
    have f132 : ∀ i, B1.1 132 i = B.1 132 i := fun i => F1.1 132 i (by omega) (by omega)
    refine ih (x + 1) _ _ _ (by omega) (MEc_zi K1 (by omega)) (MOK_W o1.1) (VM_tr hVM (fun x hx => VC_m o1.1 hx)) (o1.2.2.trans hp) (FM_tr (P'' := fun c _ => c = 132) hF (FM_tr (P'' := fun c _ => c = 132) (FM_x (P := fun c _ => c = 132) F1) (FM_zi (P := fun c _ => c = 132) rfl) (fun _ _ z => z) (fun _ _ z => z)) (fun _ _ z => z) (fun _ _ z => z)) (fun y q1 q2 => ⟨?_, ?_⟩) (fun B' a1 a2 a3 a4 a5 a6 a7 => hQ B' a1 a2 a3 a4 a5 (fun y q1 q2 => ?_) (fun i hi => ?_))
    · rw [zi_get, if_neg (by omega), f132]
      exact (h1 y (by omega) q2).1
    · show (if W * w + y = W * w + x then _ else R (W * w + y)) = _
      rw [if_neg (by omega)]
      exact (h1 y (by omega) q2).2
    · by_cases z : y = x
      · subst z
        rw [a7 _ (by omega), zi_v]
        refine Eq.symm ((dmx_om c (W * w + y + 1) _ _ (W * w + y) (by omega)).trans ?_)
        show (if W * w + y = W * w + y then _ else _) = _
        rw [if_pos rfl]
      · exact a6 y (by omega) q2
    · rw [a7 i (by omega), zi_get, if_neg (by omega), f132]
end IFE
