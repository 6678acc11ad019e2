/-! if: the reference's endOfIf(), all the vars -/
section IFT
variable {l : Launch} {Gr : zG} {n w : Nat} {d : Nat} {S A A0 T T0 B0 : zS} {e : Int32} {V L R : Nat → Int32} {Q : Option Value → zS → Prop} {u t W nv c m s a q : Nat} {vb vq vt : Nat → Nat}
theorem cel_wx (hw1 : 1 ≤ w) (h : ∀ W x, s ≤ W → W < a → x < w → V (W * w + x) = L (W * w + x)) (i : Nat) (h1 : s * w ≤ i) (h2 : i < a * w) : V i = L i := by
  have e1 : i / w * w + i % w = i := by rw [Nat.mul_comm]; exact Nat.div_add_mod i w
  have := h (i / w) (i % w) ((Nat.le_div_iff_mul_le (by omega)).mpr h1) ((Nat.div_lt_iff_lt_mul (by omega)).mpr h2) (Nat.mod_lt _ (by omega))
  rw [e1] at this
  exact this
theorem dmx_v (hw1 : 1 ≤ w) (hsa : s ≤ a) (haq : a + q ≤ 256) (h : ∀ W x, s ≤ W → W < a → x < w → V (W * w + x) = L (W * w + x)) : (dmxP e V L ((256 - s) * w) (s * w) R).2 T = (dmxP e V L ((256 - (a + q)) * w) ((a + q) * w) ((dmxP e V L (q * w) (a * w) R).2 T).1).2 ((dmxP e V L (q * w) (a * w) R).2 T).2 := by
  have e1 : (256 - s) * w = (a - s) * w + (q * w + (256 - (a + q)) * w) := by rw [← Nat.add_mul, ← Nat.add_mul]; congr 1; omega
  have e2 : s * w + (a - s) * w = a * w := by rw [← Nat.add_mul]; congr 1; omega
  have e3 : (a + q) * w = a * w + q * w := Nat.add_mul _ _ _
  rw [e1, dmx_ad, dmx_no ((a - s) * w) (s * w) R (fun i q1 q2 => cel_wx hw1 h i q1 (by omega)), e2]
  show (dmxP e V L (q * w + (256 - (a + q)) * w) (a * w) R).2 T = _
  rw [dmx_ad, e3]
  rfl
theorem vb_mo (hso : ∀ t, t + 1 < nv → vb t + vq t ≤ vb (t + 1)) : ∀ d, t + 1 + d < nv → vb t + vq t ≤ vb (t + 1 + d)
  | 0, h => hso t h
  | d + 1, h => by
    have h1 := vb_mo hso d (by omega)
    have h2 := hso (t + 1 + d) (by omega)
    show _ ≤ vb (t + 1 + d + 1)
    omega
theorem if_54 (hg : ip_gk (lg_tbl, vwCl, Gr)) (hw : w ≤ 32) (hw1 : 1 ≤ w) (hu : u < 40) (hnv : nv ≤ 256) (h97 : B0.1 73 97 = nI nv) (hv : ∀ t, t < nv → B0.1 133 t = nI (vb t) ∧ B0.1 134 t = nI (vq t) ∧ B0.1 135 t = nI (vt t) ∧ vb t + vq t ≤ 256 ∧ vt t ≤ w) (hso : ∀ t, t + 1 < nv → vb t + vq t ≤ vb (t + 1)) (h136 : B0.1 136 u = e) (hV : ∀ t W x, t < nv → vb t ≤ W → W < vb t + vq t → x < vt t → B0.1 140 (8192 * u + 32 * W + x) = V (W * w + x) ∧ CNl (L (W * w + x)) ∧ VC T0 (V (W * w + x)) ∧ VC T0 (L (W * w + x))) (ve : VC T0 e) (hgap : ∀ W x, W < 256 → x < w → (∀ t, t < nv → ¬ (vb t ≤ W ∧ W < vb t + vq t ∧ x < vt t)) → V (W * w + x) = L (W * w + x)) : ∀ (c t s : Nat) (R : Nat → Int32) (T B : zS), t + c = nv → s ≤ 256 → (t < nv → s ≤ vb t) → (∀ t', t' < t → vb t' + vq t' ≤ s) → MEc T B → MW T → VM T0 T → mPla T = mPla T0 → FM (fun c _ => c = 132) B0 B → (∀ t' W y, t ≤ t' → t' < nv → vb t' ≤ W → W < vb t' + vq t' → y < vt t' → B.1 132 (32 * W + y) = L (W * w + y) ∧ R (W * w + y) = L (W * w + y)) → (∀ B', MEc ((dmxP e V L ((256 - s) * w) (s * w) R).2 T).2 B' → FM (fun c _ => c = 132) B0 B' → (∀ t' W y, t ≤ t' → t' < nv → vb t' ≤ W → W < vb t' + vq t' → y < vt t' → B'.1 132 (32 * W + y) = ((dmxP e V L ((256 - s) * w) (s * w) R).2 T).1 (W * w + y)) → (∀ i, (∀ t', t ≤ t' → t' < nv → ¬ (32 * vb t' ≤ i ∧ i < 32 * (vb t' + vq t'))) → B'.1 132 i = B.1 132 i) → Q none B') → zW l Gr (zc n w) 168 M_Mo_endOfIf (d + 5) 54 [some (.ref 105), some (.int (nI u)), some (.int (nI t)), none, none] [] B Q := by
  intro c
  induction c with
  | zero =>
    intro t s R T B h hs1 hs2 hs3 hK hM hVM hp hF h1 hQ
    have z : dmxP e V L ((256 - s) * w) (s * w) R = cRet R := dmx_no _ _ _ (fun i q1 q2 => cel_wx (a := 256) hw1 (fun W x p1 p2 p3 => hgap W x p2 p3 (fun t' ht y => by have := hs3 t' (by omega); omega)) i q1 (by
      have : s * w + (256 - s) * w = 256 * w := by rw [← Nat.add_mul]; congr 1; omega
      omega))
    rw [z] at hQ
    exact b_Mo_endOfIf_54 (fun _ => b_Mo_endOfIf_170 (hQ B hK hF (fun t' _ _ q1 q2 => absurd q1 (by omega)) (fun _ _ => rfl))) (fun y => absurd (by rw [hF.1 73 97 (by omega) (by omega) (by omega), h97]; exact nI_le (by omega) (by omega)) y)
  | succ c ih =>
    intro t s R T B h hs1 hs2 hs3 hK hM hVM hp hF h1 hQ
    obtain ⟨v1, v2, v3, v4, v5⟩ := hv t (by omega)
    have hs2 := hs2 (by omega)
    have mono : ∀ t', t < t' → t' < nv → vb t + vq t ≤ vb t' := fun t' q1 q2 => by
      have := vb_mo (t := t) hso (t' - (t + 1)) (by omega)
      rw [show t + 1 + (t' - (t + 1)) = t' by omega] at this
      exact this
    have dv := dmx_v (e := e) (V := V) (L := L) (R := R) (T := T) (s := s) (a := vb t) (q := vq t) hw1 hs2 v4 (fun W x p1 p2 p3 => hgap W x (by omega) p3 (fun t' ht y => by
      by_cases q1 : t' < t
      · have := hs3 t' q1
        omega
      · by_cases q2 : t' = t
        · subst q2
          omega
        · have := mono t' (by omega) ht
          omega))
    rw [dv] at hQ
    refine b_Mo_endOfIf_54 (fun y => absurd (by rw [hF.1 73 97 (by omega) (by omega) (by omega), h97] at y; exact y) (nI_ge (by omega) (by omega))) (fun _ => b_Mo_endOfIf_62 (vp_in_nI (by omega) (by omega)) ?_)
    rw [nI_clamp (by omega), hF.1 133 t (by omega) (by omega) (by omega), v1]
    refine if_69 (V := V) (L := L) (T0 := T0) hg hw hu (by omega) v4 v5 v1 v2 v3 h136 (fun W x q1 q2 q3 => (hV t W x (by omega) q1 q2 q3).1) (fun W x q1 q2 q3 => (hV t W x (by omega) q1 q2 q3).2.1) ve (fun W x q1 q2 q3 => (hV t W x (by omega) q1 q2 q3).2.2) (fun W x q1 q2 q3 q4 => hgap W x (by omega) q4 (fun t' ht y => by
      by_cases p1 : t' < t
      · have := hs3 t' p1
        omega
      · by_cases p2 : t' = t
        · subst p2
          omega
        · have := mono t' (by omega) ht
          omega)) (vq t) (vb t) R T B (by omega) (Nat.le_refl _) hK hM hVM hp hF (fun W' y q1 q2 q3 => h1 t W' y (Nat.le_refl _) (by omega) q1 q2 q3) (fun B1 a1 a2 a3 a4 a5 a6 a7 => b_Mo_endOfIf_164 ?_)
    rw [show nI t + Int32.ofInt 1 = nI (t + 1) from nI_add t 1]
    have om : ∀ W y (R : Nat → Int32) (T : zS), vb t + vq t ≤ W → ((dmxP e V L (vq t * w) (vb t * w) R).2 T).1 (W * w + y) = R (W * w + y) := fun W y R T q => by
      have : (vb t + vq t) * w ≤ W * w := Nat.mul_le_mul_right _ q
      rw [Nat.add_mul] at this
      exact dmx_om _ _ _ _ _ (by omega)
    refine ih (t + 1) (vb t + vq t) _ _ B1 (by omega) v4 (fun q => mono (t + 1) (by omega) q) (fun t' q => ?_) a1 a2 a3 a4 a5 (fun t' W y q1 q2 q3 q4 q5 => ⟨?_, ?_⟩) (fun B' b1 b2 b3 b4 => hQ B' b1 b2 (fun t' W y q1 q2 q3 q4 q5 => ?_) (fun i hi => ?_))
    · by_cases y : t' = t
      · subst y
        exact Nat.le_refl _
      · have := hs3 t' (by omega)
        omega
    · have := mono t' (by omega) q2
      rw [a7 _ (by omega)]
      exact (h1 t' W y (by omega) q2 q3 q4 q5).1
    · have := mono t' (by omega) q2
      rw [om W y _ _ (by omega)]
      exact (h1 t' W y (by omega) q2 q3 q4 q5).2
    · by_cases z : t' = t
      · subst z
        have hb : y < w := by omega
        rw [b4 _ (fun t'' p1 p2 p3 => by
          have := mono t'' (by omega) p2
          omega), a6 W y q3 q4 q5]
        refine (dmx_om _ _ _ _ _ ?_).symm
        have : W * w + w ≤ (vb t' + vq t') * w := by rw [← Nat.succ_mul]; exact Nat.mul_le_mul_right _ q4
        omega
      · exact b3 t' W y (by omega) q2 q3 q4 q5
    · rw [b4 i (fun t' p1 p2 => hi t' (by omega) p2), a7 i (by have := hi t (Nat.le_refl _) (by omega); omega)]
end IFT
