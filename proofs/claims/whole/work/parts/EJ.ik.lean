/-! if: the class's instructions 14, 15, 16 -/
section IFK
variable {l : Launch} {Gr : zG} {n w : Nat} {d : Nat} {S A A0 T B B0 : zS} {e x y : Int32} {V L R : Nat → Int32} {Q : Option Value → zS → Prop} {a b m i o r v q j z c k u s g t i1 lo p : Nat}
theorem w_flw (hg : ip_gk (lg_tbl, vwCl, Gr)) (hj : j < 4000) (hz : z = 14 ∨ z = 15 ∨ z = 16) {R : zS → Prop} (q : zMv l Gr (zc n w) 168 M_Builder_buildFlow (d + 6) [.ref 77, .int (nI j), .int (nI z)] A R) : zMv l Gr (zc n w) 168 M_Builder_buildStatement (d + 7) [.ref 77, .int (nI j), .int (nI z)] A R := by
  have ne : ∀ y : Nat, y < 14 → ¬ nI z = nI y := fun y hy e => by
    have := (nI_eq (a := z) (b := y) (by omega) (by omega)).mp e
    omega
  refine e_Builder_buildStatement (b_Builder_buildStatement_0 (vp_in_nI hj (by omega)) (fun y => absurd y (ne 1 (by omega))) (fun y => absurd y (ne 3 (by omega))) (fun y => absurd y (ne 5 (by omega))) (fun y => absurd y (ne 7 (by omega))) (fun y => absurd y (ne 8 (by omega))) (fun y => absurd y (ne 10 (by omega))) (fun y => absurd y (ne 12 (by omega))) (fun y => absurd y (ne 13 (by omega))) (fun _ _ _ _ _ _ _ _ => ?_))
  exact b_Builder_buildStatement_261 hg q (fun A' k => b_Builder_buildStatement_267 ⟨rfl, k⟩)
theorem w_st14 (hg : ip_gk (lg_tbl, vwCl, Gr)) (hw : w ≤ 32) (hw1 : 1 ≤ w) (hj : j < 4000) (h5 : A.1 5 j = nI lo) (h7 : A.1 7 j = nI g) (hlg : lo + g ≤ 256) (h8 : A.1 45 8 = nI b) (hb : b + g * w ≤ 9682 * w) : zMv l Gr (zc n w) 168 M_Builder_buildStatement (d + 7) [.ref 77, .int (nI j), .int 14] A (fun A' => A' = zi (zI A 57 (va_cpy (A.1 58) (A.1 57) (lo * w) b (g * w))) 45 8 (nI (b + g * w))) := by
  have cj : ((nI j : Int32)).toNatClampNeg = j := nI_clamp (by omega)
  have hmul : 9682 * w ≤ 9682 * 32 := Nat.mul_le_mul_left _ hw
  have m1 : lo * w + g * w ≤ 256 * w := by rw [← Nat.add_mul]; exact Nat.mul_le_mul_right _ hlg
  have m2 : 256 * w ≤ 256 * 32 := Nat.mul_le_mul_left _ hw
  have c1 : ((nI (lo * w) : Int32)).toNatClampNeg = lo * w := nI_clamp (by omega)
  have c2 : ((nI (g * w) : Int32)).toNatClampNeg = g * w := nI_clamp (by omega)
  have c3 : ((nI b : Int32)).toNatClampNeg = b := nI_clamp (by omega)
  refine w_flw (z := 14) hg hj (Or.inl rfl) (e_Builder_buildFlow (b_Builder_buildFlow_0 (fun _ => b_Builder_buildFlow_44 hg (R := fun A' => A' = zi (zI A 57 (va_cpy (A.1 58) (A.1 57) (lo * w) b (g * w))) 45 8 (nI (b + g * w))) ?_ (fun A' k => b_Builder_buildFlow_49 (b_Builder_buildFlow_113 ⟨rfl, k⟩))) (fun y => absurd y (by decide)) (fun y => absurd y (by decide)) (fun y => absurd y (by decide)) (fun y => absurd y (by decide)) (fun y => absurd rfl y)))
  refine e_Builder_openIf (b_Builder_openIf_0 (vp_in_nI hj (by omega)) (fun y => ?_) (fun _ => ?_))
  · rw [cj, h5, h7, nI_mul, nI_mul, nI_add] at y
    exact absurd y (fun y => absurd (nI_le (a := lo * w + g * w) (b := 256 * w) (by omega) (by omega)) (Int32.not_le.mpr y))
  · rw [cj, h5, h7, nI_mul, nI_mul]
    refine b_Builder_openIf_41 (fun _ => b_Builder_openIf_56 (nI_pos (by omega)) (by rw [h8]; exact nI_pos (by omega)) (nI_pos (by omega)) (by rw [c1, c2]; exact m1) (by rw [h8, c3, c2]; exact hb) ⟨rfl, ?_⟩) (fun y => absurd (by rw [h8, nI_add]; exact nI_le (by omega) (by omega)) y)
    rw [h8, c1, c2, c3, nI_add]
theorem ki_53 (hw : w ≤ 32) (hs : s + g ≤ 256 * w) (hb : b + g ≤ 9682 * w) (h8 : A0.1 45 8 = nI (b + g)) : ∀ (c t : Nat) (A : zS), t + c = g → (∀ k i, A.2 k i = A0.2 k i) → (∀ k i, ¬ ((k = 57 ∧ b ≤ i ∧ i < b + t) ∨ (k = 58 ∧ s ≤ i ∧ i < s + t)) → A.1 k i = A0.1 k i) → (∀ x, x < t → A.1 57 (b + x) = A0.1 58 (s + x) ∧ A.1 58 (s + x) = A0.1 57 (b + x)) → (∀ A', (∀ k i, A'.2 k i = A0.2 k i) → (∀ k i, ¬ ((k = 57 ∧ b ≤ i ∧ i < b + g) ∨ (k = 58 ∧ s ≤ i ∧ i < s + g)) → A'.1 k i = A0.1 k i) → (∀ x, x < g → A'.1 57 (b + x) = A0.1 58 (s + x) ∧ A'.1 58 (s + x) = A0.1 57 (b + x)) → Q none A') → zW l Gr (zc n w) 168 M_Builder_turnIf d 53 [some (.ref 77), none, some (.int (nI g)), some (.int (nI s)), some (.int (nI t)), none] [] A Q
  | 0, t, A, h, h2, h1, hv, hQ => b_Builder_turnIf_53 (fun _ => b_Builder_turnIf_115 (hQ A h2 (fun k i q => h1 k i (by omega)) (fun x hx => hv x (by omega)))) (fun q => absurd (nI_le (a := g) (b := t) (by omega) (by have : 256 * w ≤ 256 * 32 := Nat.mul_le_mul_left _ hw; omega)) q)
  | c + 1, t, A, h, h2, h1, hv, hQ => by
    have hmul : 9682 * w ≤ 9682 * 32 := Nat.mul_le_mul_left _ hw
    have m2 : 256 * w ≤ 256 * 32 := Nat.mul_le_mul_left _ hw
    have e1 : A.1 45 8 - nI g + nI t = nI (b + t) := by rw [h1 45 8 (by omega), h8, nI_subb, nI_add]
    refine b_Builder_turnIf_53 (fun q => absurd q (nI_ge (a := t) (b := g) (by omega) (by omega))) (fun _ => b_Builder_turnIf_59 (by rw [e1]; exact vp_in_nI (by omega) (by omega)) (by rw [nI_add]; exact vp_in_nI (by omega) (by omega)) ?_)
    rw [e1, nI_add, nI_clamp (by omega), nI_clamp (by omega), show nI t + Int32.ofInt 1 = nI (t + 1) from nI_add t 1, h1 58 (s + t) (by omega), h1 57 (b + t) (by omega)]
    refine ki_53 hw hs hb h8 c (t + 1) _ (by omega) h2 (fun k i q => ?_) (fun x hx => ?_) hQ
    · rw [zi_get, if_neg (by omega), zi_get, if_neg (by omega)]
      exact h1 k i (by omega)
    · by_cases y : x = t
      · subst y
        exact ⟨by rw [zi_c (by decide)]; exact zi_v, zi_v⟩
      · rw [zi_c (by decide), zi_get, if_neg (by omega), zi_get, if_neg (by omega), zi_c (by decide)]
        exact hv x (by omega)
theorem w_st15 (hg : ip_gk (lg_tbl, vwCl, Gr)) (hw : w ≤ 32) (hw1 : 1 ≤ w) (hj : j < 4000) (hi : i1 < 4000) (hj5 : A.1 5 j = nI i1) (h5 : A.1 5 i1 = nI lo) (h7 : A.1 7 i1 = nI g) (hlg : lo + g ≤ 256) (h8 : A.1 45 8 = nI (b + g * w)) (hb : b + g * w ≤ 9682 * w) : zMv l Gr (zc n w) 168 M_Builder_buildStatement (d + 7) [.ref 77, .int (nI j), .int 15] A (fun A' => (∀ k i, A'.2 k i = A.2 k i) ∧ (∀ k i, ¬ ((k = 57 ∧ b ≤ i ∧ i < b + g * w) ∨ (k = 58 ∧ lo * w ≤ i ∧ i < lo * w + g * w)) → A'.1 k i = A.1 k i) ∧ ∀ x, x < g * w → A'.1 57 (b + x) = A.1 58 (lo * w + x) ∧ A'.1 58 (lo * w + x) = A.1 57 (b + x)) := by
  have cj : ((nI j : Int32)).toNatClampNeg = j := nI_clamp (by omega)
  have ci : ((nI i1 : Int32)).toNatClampNeg = i1 := nI_clamp (by omega)
  have hmul : 9682 * w ≤ 9682 * 32 := Nat.mul_le_mul_left _ hw
  have m1 : lo * w + g * w ≤ 256 * w := by rw [← Nat.add_mul]; exact Nat.mul_le_mul_right _ hlg
  have m2 : 256 * w ≤ 256 * 32 := Nat.mul_le_mul_left _ hw
  refine w_flw (z := 15) hg hj (Or.inr (Or.inl rfl)) (e_Builder_buildFlow (b_Builder_buildFlow_0 (fun y => absurd y (by decide)) (fun _ => b_Builder_buildFlow_52 hg (R := fun A' => (∀ k i, A'.2 k i = A.2 k i) ∧ (∀ k i, ¬ ((k = 57 ∧ b ≤ i ∧ i < b + g * w) ∨ (k = 58 ∧ lo * w ≤ i ∧ i < lo * w + g * w)) → A'.1 k i = A.1 k i) ∧ ∀ x, x < g * w → A'.1 57 (b + x) = A.1 58 (lo * w + x) ∧ A'.1 58 (lo * w + x) = A.1 57 (b + x)) (vp_in_nI hj (by omega)) ?_ (fun A' k => b_Builder_buildFlow_65 (b_Builder_buildFlow_113 ⟨rfl, k⟩))) (fun y => absurd y (by decide)) (fun y => absurd y (by decide)) (fun y => absurd y (by decide)) (fun _ y => absurd rfl y)))
  rw [cj, hj5]
  refine e_Builder_turnIf (b_Builder_turnIf_0 (vp_in_nI hi (by omega)) (fun y => ?_) (fun _ => ?_))
  · rw [ci, h5, h7, nI_mul, nI_mul, nI_add] at y
    exact absurd y (fun y => absurd (nI_le (a := lo * w + g * w) (b := 256 * w) (by omega) (by omega)) (Int32.not_le.mpr y))
  · rw [ci, h5, h7, nI_mul, nI_mul]
    refine b_Builder_turnIf_41 (fun _ => b_Builder_turnIf_50 (ki_53 (A0 := A) hw m1 hb h8 (g * w) 0 A (by omega) (fun _ _ => rfl) (fun _ _ _ => rfl) (fun x hx => absurd hx (by omega)) (fun A' q1 q2 q3 => ⟨rfl, q1, q2, q3⟩))) (fun y => absurd (by rw [h8]; exact nI_le (by omega) (by omega)) y)
/-- what the copies say against the words -/
def ifV (A : zS) (b s g : Nat) : Nat → Int32 := fun k => if s ≤ k ∧ k < s + g then A.1 57 (b + (k - s)) else A.1 58 k
theorem ki_84 (hg : ip_gk (lg_tbl, vwCl, Gr)) (hw : w ≤ 32) (hs : s + g ≤ 256 * w) (hb : b + w + g ≤ 9682 * w) (h8 : A0.1 45 8 = nI b) (hC : ∀ k, k < 256 * w → CNl (A0.1 58 k)) : ∀ (c t : Nat) (R : Nat → Int32) (S A : zS), t + c = g → KEc S A → GK S → FK (fun c i => c = 58 ∧ s ≤ i ∧ i < s + g) A0 A → (∀ i, A.1 58 i = R i) → (∀ i, ¬ (s ≤ i ∧ i < s + t) → R i = A0.1 58 i) → (∀ A', KEc ((dmxP e (ifV A0 (b + w) s g) (A0.1 58) c (s + t) R).1 S).2 A' → FK (fun c i => c = 58 ∧ s ≤ i ∧ i < s + g) A0 A' → (∀ i, A'.1 58 i = ((dmxP e (ifV A0 (b + w) s g) (A0.1 58) c (s + t) R).1 S).1 i) → Q none A') → zW l Gr (zc n w) 168 M_Builder_closeIf (d + 5) 84 [some (.ref 77), none, some (.int (nI g)), some (.int (nI s)), some (.int e), some (.int (nI t))] [] A Q
  | 0, t, R, S, A, h, hK, hG, hF, h1, h2, hQ => b_Builder_closeIf_84 (fun _ => b_Builder_closeIf_140 (hQ A hK hF h1)) (fun q => absurd (nI_le (a := g) (b := t) (by omega) (by have : 256 * w ≤ 256 * 32 := Nat.mul_le_mul_left _ hw; omega)) q)
  | c + 1, t, R, S, A, h, hK, hG, hF, h1, h2, hQ => by
    have hmul : 9682 * w ≤ 9682 * 32 := Nat.mul_le_mul_left _ hw
    have m2 : 256 * w ≤ 256 * 32 := Nat.mul_le_mul_left _ hw
    have e1 : A.1 45 8 + nI w + nI t = nI (b + w + t) := by rw [hF.1 45 8 (by omega) (by omega) (by omega), h8, nI_add, nI_add]
    have vV : ifV A0 (b + w) s g (s + t) = A0.1 57 (b + w + t) := by
      unfold ifV
      rw [if_pos ⟨by omega, by omega⟩, show s + t - s = t by omega]
    have o1 := k_run (BU_mux (c := e) (x := A0.1 57 (b + w + t)) (y := A0.1 58 (s + t))) hG
    have dm := dmx_k (e := e) (V := ifV A0 (b + w) s g) (L := A0.1 58) (c := c) (k := s + t) (R := R) (S := S) (hC (s + t) (by omega)) (h2 (s + t) (by omega))
    rw [vV] at dm
    refine b_Builder_closeIf_84 (fun q => absurd q (nI_ge (a := t) (b := g) (by omega) (by omega))) (fun _ => b_Builder_closeIf_90 hg (R := fun v A' => v = ((muxP e (A0.1 57 (b + w + t)) (A0.1 58 (s + t))).1 S).1 ∧ KEc ((muxP e (A0.1 57 (b + w + t)) (A0.1 58 (s + t))).1 S).2 A' ∧ KX A A') (by rw [e1]; exact vp_in_nI (by omega) (by omega)) (by rw [nI_add]; exact vp_in_nI (by omega) (by omega)) (by
      rw [e1, nI_add, nI_clamp (by omega), nI_clamp (by omega), h1 (s + t), h2 (s + t) (by omega), hF.1 57 _ (by omega) (by omega) (by omega)]
      exact w_muxK (d := d + 1) hg hK hG) (fun v A1 k1 => ?_))
    obtain ⟨ev, K1, F1⟩ := k1
    subst ev
    rw [nI_add]
    refine b_Builder_closeIf_133 (vp_in_nI (by omega) (by omega)) ?_
    rw [nI_clamp (by omega), show nI t + Int32.ofInt 1 = nI (t + 1) from nI_add t 1]
    rw [dm] at hQ
    refine ki_84 hg hw hs hb h8 hC c (t + 1) _ _ _ (by omega) (KEc_zi K1 (by omega)) o1.1 (FK_tr (P'' := fun c i => c = 58 ∧ s ≤ i ∧ i < s + g) hF (FK_tr (P'' := fun c i => c = 58 ∧ s ≤ i ∧ i < s + g) (FK_x (P := fun c i => c = 58 ∧ s ≤ i ∧ i < s + g) F1) (FK_zi (P := fun c i => c = 58 ∧ s ≤ i ∧ i < s + g) ⟨rfl, by omega, by omega⟩) (fun _ _ z => z) (fun _ _ z => z)) (fun _ _ z => z) (fun _ _ z => z)) (fun i => ?_) (fun i hi => ?_) hQ
    · show _ = if i = s + t then _ else R i
      rw [zi_get]
      by_cases y : i = s + t
      · rw [if_pos ⟨rfl, y⟩, if_pos y]
      · rw [if_neg (by omega), if_neg y, F1.1 58 i (by omega) (by omega)]
        exact h1 i
    · show (if i = s + t then _ else R i) = _
      rw [if_neg (by omega)]
      exact h2 i (by omega)
theorem w_st16 (hg : ip_gk (lg_tbl, vwCl, Gr)) (hw : w ≤ 32) (hw1 : 1 ≤ w) (hj : j < 4000) (hi : i1 < 4000) (hj5 : A.1 5 j = nI i1) (hj6 : A.1 6 j = nI p) (h5 : A.1 5 i1 = nI lo) (h7 : A.1 7 i1 = nI g) (hlg : lo + g ≤ 256) (h8 : A.1 45 8 = nI (b + w + g * w)) (hb : b + w + g * w ≤ 9682 * w) (hC : ∀ k, k < 256 * w → CNl (A.1 58 k)) (hK : KEc S A) (hG : GK S) (he : A.1 57 b = e) : zMv l Gr (zc n w) 168 M_Builder_buildStatement (d + 7) [.ref 77, .int (nI j), .int 16] A (fun A' => KEc ((dmxP e (ifV A (b + w) (lo * w) (g * w)) (A.1 58) (g * w) (lo * w) (A.1 58)).1 S).2 A' ∧ FK (fun c i => (c = 45 ∧ (i = 8 ∨ i = 17)) ∨ (c = 58 ∧ lo * w ≤ i ∧ i < lo * w + g * w)) A A' ∧ A'.1 45 8 = nI b ∧ A'.1 45 17 = nI p ∧ ∀ i, A'.1 58 i = ((dmxP e (ifV A (b + w) (lo * w) (g * w)) (A.1 58) (g * w) (lo * w) (A.1 58)).1 S).1 i) := by
  have cj : ((nI j : Int32)).toNatClampNeg = j := nI_clamp (by omega)
  have ci : ((nI i1 : Int32)).toNatClampNeg = i1 := nI_clamp (by omega)
  have hmul : 9682 * w ≤ 9682 * 32 := Nat.mul_le_mul_left _ hw
  have m1 : lo * w + g * w ≤ 256 * w := by rw [← Nat.add_mul]; exact Nat.mul_le_mul_right _ hlg
  have m2 : 256 * w ≤ 256 * 32 := Nat.mul_le_mul_left _ hw
  have a8 : (zi A 45 17 (nI p)).1 45 8 = nI (b + w + g * w) := by rw [zi_k (by decide)]; exact h8
  have e8 : (zi A 45 17 (nI p)).1 45 8 - (nI (g * w) + nI w) = nI b := by rw [a8, nI_add, show b + w + g * w = b + (g * w + w) by omega, nI_subb]
  refine w_flw (z := 16) hg hj (Or.inr (Or.inr rfl)) (e_Builder_buildFlow (b_Builder_buildFlow_0 (fun y => absurd y (by decide)) (fun y => absurd y (by decide)) (fun _ => b_Builder_buildFlow_68 hg (R := fun A' => KEc ((dmxP e (ifV A (b + w) (lo * w) (g * w)) (A.1 58) (g * w) (lo * w) (A.1 58)).1 S).2 A' ∧ FK (fun c i => (c = 45 ∧ (i = 8 ∨ i = 17)) ∨ (c = 58 ∧ lo * w ≤ i ∧ i < lo * w + g * w)) A A' ∧ A'.1 45 8 = nI b ∧ A'.1 45 17 = nI p ∧ ∀ i, A'.1 58 i = ((dmxP e (ifV A (b + w) (lo * w) (g * w)) (A.1 58) (g * w) (lo * w) (A.1 58)).1 S).1 i) (vp_in_nI hj (by omega)) ?_ (fun A' k => b_Builder_buildFlow_94 (b_Builder_buildFlow_113 ⟨rfl, k⟩))) (fun y => absurd y (by decide)) (fun y => absurd y (by decide)) (fun _ _ y => absurd rfl y)))
  rw [cj, hj5, hj6]
  have c5 : (zi A 45 17 (nI p)).1 5 i1 = nI lo := by rw [zi_c (by decide)]; exact h5
  have c7 : (zi A 45 17 (nI p)).1 7 i1 = nI g := by rw [zi_c (by decide)]; exact h7
  refine e_Builder_closeIf (b_Builder_closeIf_0 (vp_in_nI hi (by omega)) (fun y => ?_) (fun _ => ?_))
  · rw [ci, c5, c7, nI_mul, nI_mul, nI_add] at y
    exact absurd y (fun y => absurd (nI_le (a := lo * w + g * w) (b := 256 * w) (by omega) (by omega)) (Int32.not_le.mpr y))
  · rw [ci, c5, c7, nI_mul, nI_mul]
    refine b_Builder_closeIf_41 (fun _ => b_Builder_closeIf_55 (by rw [e8]; exact vp_in_nI (by omega) (by omega)) ?_) (fun y => absurd (by rw [a8, nI_add]; exact nI_le (by omega) (by omega)) y)
    rw [e8, nI_clamp (by omega), zi_c (by decide), he]
    have f58 : (zi (zi A 45 17 (nI p)) 45 8 (nI b)).1 58 = A.1 58 := funext fun k => by rw [zi_c (by decide), zi_c (by decide)]
    have fV : ifV (zi (zi A 45 17 (nI p)) 45 8 (nI b)) (b + w) (lo * w) (g * w) = ifV A (b + w) (lo * w) (g * w) := funext fun k => by
      unfold ifV
      rw [f58, zi_c (by decide), zi_c (by decide)]
    have := ki_84 (l := l) (Gr := Gr) (n := n) (d := d) (e := e) (s := lo * w) (g := g * w) (b := b) (A0 := zi (zi A 45 17 (nI p)) 45 8 (nI b)) (Q := fun v A' => v = none ∧ KEc ((dmxP e (ifV A (b + w) (lo * w) (g * w)) (A.1 58) (g * w) (lo * w) (A.1 58)).1 S).2 A' ∧ FK (fun c i => (c = 45 ∧ (i = 8 ∨ i = 17)) ∨ (c = 58 ∧ lo * w ≤ i ∧ i < lo * w + g * w)) A A' ∧ A'.1 45 8 = nI b ∧ A'.1 45 17 = nI p ∧ ∀ i, A'.1 58 i = ((dmxP e (ifV A (b + w) (lo * w) (g * w)) (A.1 58) (g * w) (lo * w) (A.1 58)).1 S).1 i) hg hw m1 hb zi_v (fun k hk => by rw [f58]; exact hC k hk) (g * w) 0 (A.1 58) S _ (by omega) (KEc_zi (KEc_zi hK (by omega)) (by omega)) hG FK_rfl (fun i => by rw [f58]) (fun i _ => by rw [f58])
    rw [fV, f58, Nat.add_zero] at this
    refine this (fun A' q1 q2 q3 => ⟨rfl, q1, ?_, ?_, ?_, q3⟩)
    · exact FK_tr (P'' := fun c i => (c = 45 ∧ (i = 8 ∨ i = 17)) ∨ (c = 58 ∧ lo * w ≤ i ∧ i < lo * w + g * w)) (FK_tr (P'' := fun c i => (c = 45 ∧ (i = 8 ∨ i = 17)) ∨ (c = 58 ∧ lo * w ≤ i ∧ i < lo * w + g * w)) (FK_zi (P := fun c i => (c = 45 ∧ (i = 8 ∨ i = 17)) ∨ (c = 58 ∧ lo * w ≤ i ∧ i < lo * w + g * w)) (Or.inl ⟨rfl, Or.inr rfl⟩)) (FK_zi (P := fun c i => (c = 45 ∧ (i = 8 ∨ i = 17)) ∨ (c = 58 ∧ lo * w ≤ i ∧ i < lo * w + g * w)) (Or.inl ⟨rfl, Or.inl rfl⟩)) (fun _ _ z => z) (fun _ _ z => z)) q2 (fun _ _ z => z) (fun _ _ z => Or.inr z)
    · rw [q2.1 45 8 (by omega) (by omega) (by omega)]
      exact zi_v
    · rw [q2.1 45 17 (by omega) (by omega) (by omega), zi_k (by decide)]
      exact zi_v
end IFK
