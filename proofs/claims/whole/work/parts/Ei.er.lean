/-! ANDs by levels: the reference's levels() -/
def MLv (an : Nat → Bool) (lv : Nat → Nat) (g Dm : Nat) (B : zS) : Prop := B.1 73 66 = nI g ∧ g ≤ 40000 ∧ B.1 73 68 = nI Dm ∧ Dm ≤ 2000 ∧ ∀ k, k < g → B.1 112 k = nI (lv k) ∧ (B.1 111 k = 1 ↔ an k = true) ∧ lv k ≤ Dm ∧ (an k = true → 1 ≤ lv k)
def LEV (an : Nat → Bool) (lv : Nat → Nat) (g Dm : Nat) (B B' : zS) : Prop := (∀ c i, ¬ (c = 155 ∨ c = 156) → B'.1 c i = B.1 c i) ∧ (∀ c i, B'.2 c i = B.2 c i) ∧ (∀ m, 1 ≤ m → m ≤ Dm + 1 → B'.1 155 m = nI (sL an lv m g)) ∧ ∀ x, x < g → an x = true → B'.1 156 (qLv an lv g x) = nI x
section LEW
variable {l : Launch} {Gr : zG} {n w d : Nat} {A B B0 T : zS} {an : Nat → Bool} {lv : Nat → Nat} {L Dm g k x y m : Nat} {Q : Option Value → zS → Prop}
theorem sL_1 : ∀ g, (∀ k, k < g → an k = true → 1 ≤ lv k) → sL an lv 1 g = 0
  | 0, _ => rfl
  | g + 1, h => by
    show sL an lv 1 g + (if an g = true ∧ lv g < 1 then 1 else 0) = 0
    rw [sL_1 g (fun k hk => h k (by omega)), if_neg (fun y => by have := h g (by omega) y.1; omega)]
theorem le_21 (hG : MLv an lv g Dm B0) (hL : L ≤ Dm) (hL1 : 1 ≤ L) (kk : ∀ B, (∀ c i, ¬ (c = 155 ∨ c = 156) → B.1 c i = B0.1 c i) → (∀ c i, B.2 c i = B0.2 c i) → (∀ m, 1 ≤ m → m ≤ L → B.1 155 m = nI (sL an lv m g)) → (∀ y, y < g → an y = true → lv y ≤ L → B.1 156 (qLv an lv g y) = nI y) → zW l Gr (zc n w) 168 M_Mo_levels d 4 [some (.ref 105), some (.int (nI (sL an lv (L + 1) g))), some (.int (nI (L + 1))), none] [] B Q) : ∀ c x B, x + c = g → (∀ c i, ¬ (c = 155 ∨ c = 156) → B.1 c i = B0.1 c i) → (∀ c i, B.2 c i = B0.2 c i) → (∀ m, 1 ≤ m → m ≤ L → B.1 155 m = nI (sL an lv m g)) → (∀ y, y < g → an y = true → lv y < L ∨ (lv y = L ∧ y < x) → B.1 156 (qLv an lv g y) = nI y) → zW l Gr (zc n w) 168 M_Mo_levels d 21 [some (.ref 105), some (.int (nI (sL an lv L g + cL an lv L x))), some (.int (nI L)), some (.int (nI x))] [] B Q
  | 0, x, B, h, f1, f2, h5, h6 => by
    obtain ⟨g66, hg, g68, hD, hk⟩ := hG
    have ex : x = g := by omega
    subst ex
    refine b_Mo_levels_21 (fun _ => b_Mo_levels_65 ?_) (fun q => absurd (by rw [f1 73 66 (by omega), g66]; exact nI_le (Nat.le_refl _) (by omega)) q)
    rw [show nI L + Int32.ofInt 1 = nI (L + 1) from nI_add L 1, ← sL_s]
    exact kk B f1 f2 h5 (fun y q1 q2 q3 => h6 y q1 q2 (by omega))
  | c + 1, x, B, h, f1, f2, h5, h6 => by
    have hG' := hG
    obtain ⟨g66, hg, g68, hD, hk⟩ := hG
    obtain ⟨k112, k111, kl, k1⟩ := hk x (by omega)
    have cx : ((nI x : Int32)).toNatClampNeg = x := nI_clamp (by omega)
    have e1 : nI x + Int32.ofInt 1 = nI (x + 1) := nI_add x 1
    have b111 : B.1 111 x = B0.1 111 x := f1 111 x (by omega)
    have b112 : B.1 112 x = nI (lv x) := (f1 112 x (by omega)).trans k112
    have no : ¬ (an x = true ∧ lv x = L) → zW l Gr (zc n w) 168 M_Mo_levels d 59 [some (.ref 105), some (.int (nI (sL an lv L g + cL an lv L x))), some (.int (nI L)), some (.int (nI x))] [] B Q := fun q => by
      refine b_Mo_levels_59 ?_
      rw [e1, ← cL_n q]
      refine le_21 hG' hL hL1 kk c (x + 1) B (by omega) f1 f2 h5 (fun y q1 q2 q3 => h6 y q1 q2 ?_)
      rcases q3 with q3 | ⟨q3, q4⟩
      · exact Or.inl q3
      · refine Or.inr ⟨q3, ?_⟩
        by_cases z : y = x
        · exact absurd ⟨by rw [← z]; exact q2, by rw [← z]; exact q3⟩ q
        · omega
    refine b_Mo_levels_21 (fun q => absurd q (by rw [f1 73 66 (by omega), g66]; exact nI_ge (a := x) (b := g) (by omega) (by omega))) (fun _ => b_Mo_levels_29 (vp_in_nI (by omega) (by omega)) (fun q => no (fun y => q (by rw [cx, b111]; exact k111.mpr y.1))) (fun q => b_Mo_levels_39 (vp_in_nI (by omega) (by omega)) (fun q2 => no (fun y => q2 (by rw [cx, b112, y.2]))) (fun q2 => ?_)))
    have na : an x = true := k111.mp (by rw [← b111, ← cx]; exact q)
    have nl : lv x = L := (nI_eq (by omega) (by omega)).mp (by rw [cx, b112] at q2; exact q2)
    have hp := qLv_lt (g := g) (lv := lv) na (by omega)
    have hs := sL_le (an := an) (lv := lv) (L := lv x + 1) g
    have ep : sL an lv L g + cL an lv L x = qLv an lv g x := by unfold qLv; rw [nl]
    refine b_Mo_levels_49 (vp_in_nI (by omega) (by omega)) ?_
    rw [show nI (sL an lv L g + cL an lv L x) + Int32.ofInt 1 = nI (sL an lv L g + cL an lv L (x + 1)) from by rw [cL_y na nl, ← Nat.add_assoc]; exact nI_add _ 1, nI_clamp (by omega), ep]
    refine b_Mo_levels_59 ?_
    rw [e1]
    refine le_21 hG' hL hL1 kk c (x + 1) _ (by omega) (fun c i q => by rw [zi_c (by omega)]; exact f1 c i q) f2 (fun m q1 q2 => by rw [zi_c (by decide)]; exact h5 m q1 q2) (fun y q1 q2 q3 => ?_)
    by_cases z : y = x
    · rw [z]
      exact zi_v
    · rw [zi_k (fun e => by
        rcases Nat.lt_or_ge y x with w1 | w1
        · exact qLv_ne na q2 (by omega) w1 e
        · exact qLv_ne q2 na q1 (by omega) e.symm)]
      exact h6 y q1 q2 (by omega)
theorem le_4 (hG : MLv an lv g Dm B0) (kk : ∀ B', LEV an lv g Dm B0 B' → Q none B') : ∀ c L B, L + c = Dm + 1 → 1 ≤ L → (∀ c i, ¬ (c = 155 ∨ c = 156) → B.1 c i = B0.1 c i) → (∀ c i, B.2 c i = B0.2 c i) → (∀ m, 1 ≤ m → m < L → B.1 155 m = nI (sL an lv m g)) → (∀ y, y < g → an y = true → lv y < L → B.1 156 (qLv an lv g y) = nI y) → zW l Gr (zc n w) 168 M_Mo_levels d 4 [some (.ref 105), some (.int (nI (sL an lv L g))), some (.int (nI L)), none] [] B Q
  | 0, L, B, h, hL, f1, f2, h5, h6 => by
    obtain ⟨g66, hg, g68, hD, hk⟩ := hG
    have b68 : B.1 73 68 = nI Dm := (f1 73 68 (by omega)).trans g68
    have e1 : B.1 73 68 + 1 = nI (Dm + 1) := by rw [b68, nI_1]
    refine b_Mo_levels_4 (fun _ => b_Mo_levels_71 (by rw [e1]; exact vp_in_nI (by omega) (by omega)) ?_) (fun q => absurd (by rw [b68]; exact nI_lt (a := Dm) (b := L) (by omega) (by omega)) q)
    rw [e1, nI_clamp (by omega)]
    refine kk _ ⟨fun c i q => by rw [zi_c (by omega)]; exact f1 c i q, f2, fun m q1 q2 => ?_, fun x q1 q2 => ?_⟩
    · by_cases z : m = Dm + 1
      · rw [z, zi_v, show L = Dm + 1 by omega]
      · rw [zi_k z]
        exact h5 m q1 (by omega)
    · rw [zi_c (by decide)]
      exact h6 x q1 q2 (by have := (hk x q1).2.2.1; omega)
  | c + 1, L, B, h, hL, f1, f2, h5, h6 => by
    have hG' := hG
    obtain ⟨g66, hg, g68, hD, hk⟩ := hG
    have b68 : B.1 73 68 = nI Dm := (f1 73 68 (by omega)).trans g68
    refine b_Mo_levels_4 (fun q => absurd q (by rw [b68]; exact nI_nlt (a := Dm) (b := L) (by omega) (by omega))) (fun _ => b_Mo_levels_12 (vp_in_nI (by omega) (by omega)) ?_)
    rw [nI_clamp (by omega)]
    refine le_21 hG' (L := L) (by omega) hL (fun B' g1 g2 g3 g4 => le_4 hG' kk c (L + 1) B' (by omega) (by omega) g1 g2 (fun m q1 q2 => g3 m q1 (by omega)) (fun y q1 q2 q3 => g4 y q1 q2 (by omega))) g 0 _ (by omega) (fun c i q => by rw [zi_c (by omega)]; exact f1 c i q) f2 (fun m q1 q2 => ?_) (fun y q1 q2 q3 => ?_)
    · by_cases z : m = L
      · rw [z, zi_v]
      · rw [zi_k z]
        exact h5 m q1 (by omega)
    · rw [zi_c (by decide)]
      exact h6 y q1 q2 (by omega)
theorem m_levels (hG : MLv an lv g Dm B) : zMv l Gr (zc n w) 168 M_Mo_levels d [.ref 105] B (fun B' => LEV an lv g Dm B B') := by
  have e0 : sL an lv 1 g = 0 := sL_1 g (fun k hk => (hG.2.2.2.2 k hk).2.2.2)
  have := le_4 (l := l) (Gr := Gr) (n := n) (w := w) (d := d) (Q := fun v B' => v = none ∧ LEV an lv g Dm B B') hG (fun B' h => ⟨rfl, h⟩) Dm 1 B (by omega) (by omega) (fun _ _ _ => rfl) (fun _ _ => rfl) (fun m q1 q2 => absurd q1 (by omega)) (fun y q1 q2 q3 => absurd q3 (by have := (hG.2.2.2.2 y q1).2.2.2 q2; omega))
  rw [e0] at this
  exact e_Mo_levels (b_Mo_levels_0 this)
/-- the gates' kinds and levels, as the reference has them -/
def gAn (B : zS) : Nat → Bool := fun k => decide (B.1 111 k = 1)
def gLv (B : zS) : Nat → Nat := fun k => (B.1 112 k).toNatClampNeg
theorem cAn_n : ∀ k, (∀ j, j < k → B.1 111 j = 0 ∨ B.1 111 j = 1) → ∃ c, c ≤ k ∧ cAn B k = nI c
  | 0, _ => ⟨0, Nat.le_refl _, rfl⟩
  | k + 1, h => by
    obtain ⟨c, h1, h2⟩ := cAn_n k (fun j hj => h j (by omega))
    rcases h k (by omega) with q | q
    · refine ⟨c, by omega, ?_⟩
      show cAn B k + B.1 111 k = _
      rw [h2, q]
      exact nI_add c 0
    · refine ⟨c + 1, by omega, ?_⟩
      show cAn B k + B.1 111 k = _
      rw [h2, q]
      exact nI_add c 1
theorem lv_both (hC : CEQ A B) : ∃ g Dm, GLv (gAn B) (gLv B) g A ∧ MLv (gAn B) (gLv B) g Dm B := by
  obtain ⟨g, iw, hg, hi, h4, h66, h8, h65, h5, h67, h6, ⟨Dm, hDm, h68⟩, hr⟩ := hC
  refine ⟨g, Dm, ⟨h4, hg, fun k hk => ?_⟩, h66, hg, h68, hDm, fun k hk => ?_⟩
  · obtain ⟨⟨-, -, r3, r4⟩, w1, -, -, L, Dq, q1, q2, q3, q4, q5⟩ := hr k hk
    have el : gLv B k = L := by unfold gLv; rw [q3, nI_clamp (by omega)]
    refine ⟨by rw [r3, q3, el], ?_, by omega, fun q => by rw [el]; exact q5 (of_decide_eq_true q)⟩
    rw [r4]
    rcases w1 with w1 | w1
    · rw [if_pos w1]
      exact ⟨fun _ q => absurd (w1.symm.trans (of_decide_eq_true q)) (by decide), fun _ => rfl⟩
    · obtain ⟨c, c1, c2⟩ := cAn_n (B := B) k (fun j hj => (hr j (by omega)).2.1)
      rw [if_neg (by rw [w1]; decide), c2]
      exact ⟨fun q => absurd (by rw [q]; decide : nI c < 0) (nI_pos (by omega)), fun q => absurd (decide_eq_true w1) q⟩
  · obtain ⟨-, w1, -, -, L, Dq, q1, q2, q3, q4, q5⟩ := hr k hk
    have el : gLv B k = L := by unfold gLv; rw [q3, nI_clamp (by omega)]
    have ed : Dq = Dm := (nI_eq (by omega) (by omega)).mp (q4.symm.trans h68)
    exact ⟨by rw [q3, el], ⟨fun q => decide_eq_true q, fun q => of_decide_eq_true q⟩, by omega, fun q => by rw [el]; exact q5 (of_decide_eq_true q)⟩
end LEW
