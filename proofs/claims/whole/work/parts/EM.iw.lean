/-! if: the reference's endOfIf(), a var's words -/
section IFW
variable {l : Launch} {Gr : zG} {n w : Nat} {d : Nat} {S A A0 T T0 B0 : zS} {e : Int32} {V L R : Nat → Int32} {Q : Option Value → zS → Prop} {u t W nv c m : Nat} {vb vq vt : Nat → Nat}
theorem dmx_w (hm : m ≤ w) (hs : ∀ x, m ≤ x → x < w → V (W * w + x) = L (W * w + x)) : (dmxP e V L ((c + 1) * w) (W * w) R).2 T = (dmxP e V L (c * w) ((W + 1) * w) ((dmxP e V L m (W * w) R).2 T).1).2 ((dmxP e V L m (W * w) R).2 T).2 := by
  have e1 : (c + 1) * w = m + ((w - m) + c * w) := by rw [Nat.succ_mul]; omega
  have e2 : (W + 1) * w = W * w + m + (w - m) := by rw [Nat.succ_mul]; omega
  rw [e1, dmx_ad]
  show (dmxP e V L (w - m + c * w) (W * w + m) ((dmxP e V L m (W * w) R).2 T).1).2 ((dmxP e V L m (W * w) R).2 T).2 = _
  rw [dmx_ad, dmx_no (w - m) (W * w + m) _ (fun i q1 q2 => by
    have := hs (i - W * w) (by omega) (by omega)
    rw [show W * w + (i - W * w) = i by omega] at this
    exact this), e2]
  rfl
theorem if_69 (hg : ip_gk (lg_tbl, vwCl, Gr)) (hw : w ≤ 32) (hu : u < 40) (ht : t < 256) (hv : vb t + vq t ≤ 256) (hvt : vt t ≤ w) (h133 : B0.1 133 t = nI (vb t)) (h134 : B0.1 134 t = nI (vq t)) (h135 : B0.1 135 t = nI (vt t)) (h136 : B0.1 136 u = e) (hV : ∀ W x, vb t ≤ W → W < vb t + vq t → x < vt t → B0.1 140 (8192 * u + 32 * W + x) = V (W * w + x)) (hC : ∀ W x, vb t ≤ W → W < vb t + vq t → x < vt t → CNl (L (W * w + x))) (ve : VC T0 e) (vV : ∀ W x, vb t ≤ W → W < vb t + vq t → x < vt t → VC T0 (V (W * w + x)) ∧ VC T0 (L (W * w + x))) (hs : ∀ W x, vb t ≤ W → W < vb t + vq t → vt t ≤ x → x < w → V (W * w + x) = L (W * w + x)) : ∀ (c W : Nat) (R : Nat → Int32) (T B : zS), W + c = vb t + vq t → vb t ≤ W → MEc T B → MW T → VM T0 T → mPla T = mPla T0 → FM (fun c _ => c = 132) B0 B → (∀ W' y, W ≤ W' → W' < vb t + vq t → y < vt t → B.1 132 (32 * W' + y) = L (W' * w + y) ∧ R (W' * w + y) = L (W' * w + y)) → (∀ B', MEc ((dmxP e V L (c * w) (W * w) R).2 T).2 B' → MW ((dmxP e V L (c * w) (W * w) R).2 T).2 → VM T0 ((dmxP e V L (c * w) (W * w) R).2 T).2 → mPla ((dmxP e V L (c * w) (W * w) R).2 T).2 = mPla T0 → FM (fun c _ => c = 132) B0 B' → (∀ W' y, W ≤ W' → W' < vb t + vq t → y < vt t → B'.1 132 (32 * W' + y) = ((dmxP e V L (c * w) (W * w) R).2 T).1 (W' * w + y)) → (∀ i, ¬ (32 * W ≤ i ∧ i < 32 * (vb t + vq t)) → B'.1 132 i = B.1 132 i) → zW l Gr (zc n w) 168 M_Mo_endOfIf (d + 5) 164 [some (.ref 105), some (.int (nI u)), some (.int (nI t)), none, none] [] B' Q) → zW l Gr (zc n w) 168 M_Mo_endOfIf (d + 5) 69 [some (.ref 105), some (.int (nI u)), some (.int (nI t)), some (.int (nI W)), none] [] B Q := by
  have ct : ((nI t : Int32)).toNatClampNeg = t := nI_clamp (by omega)
  have ee : ∀ B, FM (fun c _ => c = 132) B0 B → B.1 133 ((nI t : Int32)).toNatClampNeg + B.1 134 ((nI t : Int32)).toNatClampNeg = nI (vb t + vq t) := fun B h => by rw [ct, h.1 133 t (by omega) (by omega) (by omega), h.1 134 t (by omega) (by omega) (by omega), h133, h134, nI_add]
  intro c
  induction c with
  | zero =>
    intro W R T B h hW hK hM hVM hp hF h1 hQ
    have z : dmxP e V L (0 * w) (W * w) R = cRet R := by rw [Nat.zero_mul]; rfl
    rw [z] at hQ
    exact b_Mo_endOfIf_69 (vp_in_nI (by omega) (by omega)) (fun _ => hQ B hK hM hVM hp hF (fun W' y q1 q2 => absurd q1 (by omega)) (fun _ _ => rfl)) (fun y => absurd (by rw [ee B hF]; exact nI_le (by omega) (by omega)) y)
  | succ c ih =>
    intro W R T B h hW hK hM hVM hp hF h1 hQ
    have dw := dmx_w (e := e) (V := V) (L := L) (R := R) (T := T) (W := W) (c := c) hvt (fun x q1 q2 => hs W x hW (by omega) q1 q2)
    rw [dw] at hQ
    have ml : ∀ W', W + 1 ≤ W' → W * w + w ≤ W' * w := fun W' q => by rw [← Nat.succ_mul]; exact Nat.mul_le_mul_right _ q
    refine b_Mo_endOfIf_69 (vp_in_nI (by omega) (by omega)) (fun y => absurd (by rw [ee B hF] at y; exact y) (nI_ge (by omega) (by omega))) (fun _ => b_Mo_endOfIf_86 ?_)
    refine if_89 (V := V) (L := L) hg hw hu ht (by omega) hvt h135 h136 (fun x hx => hV W x hW (by omega) hx) (fun x hx => hC W x hW (by omega) hx) ve (fun x hx => vV W x hW (by omega) hx) (vt t) 0 R T B (by omega) hK hM hVM hp hF (fun y _ q2 => h1 W y (Nat.le_refl _) (by omega) q2) (fun B1 a1 a2 a3 a4 a5 a6 a7 => b_Mo_endOfIf_158 ?_)
    rw [Nat.add_zero] at a1 a2 a3 a4 a6 a7
    rw [show nI W + Int32.ofInt 1 = nI (W + 1) from nI_add W 1]
    refine ih (W + 1) _ _ B1 (by omega) (by omega) a1 a2 a3 a4 a5 (fun W' y q1 q2 q3 => ⟨?_, ?_⟩) (fun B' b1 b2 b3 b4 b5 b6 b7 => hQ B' b1 b2 b3 b4 b5 (fun W' y q1 q2 q3 => ?_) (fun i hi => ?_))
    · rw [a7 _ (by omega)]
      exact (h1 W' y (by omega) q2 q3).1
    · have := ml W' q1
      rw [dmx_om _ _ _ _ _ (by omega)]
      exact (h1 W' y (by omega) q2 q3).2
    · by_cases z : W' = W
      · subst z
        rw [b7 _ (by omega), a6 y (by omega) q3]
        refine (dmx_om _ _ _ _ _ ?_).symm
        rw [Nat.succ_mul]
        omega
      · exact b6 W' y (by omega) q2 q3
    · rw [b7 i (by omega), a7 i (by omega)]
end IFW
