/-! deal() of the class and of the reference -/
def vmF (S : zS) (a : Nat) : Nat := (S.1 21 a).toBitVec.toNat
/-- what a deal finds -/
def DFx (n w : Nat) (S : zS) (G wb iw : Nat) : Prop := G ≤ 40000 ∧ wb ≤ 256 * w ∧ iw ≤ 256 ∧ wb = Wb (iB S) iw ∧ S.1 17 6 = nI iw ∧ S.1 73 75 = nI iw ∧ S.1 24 4 = nI G ∧ S.1 73 66 = nI G ∧ S.1 24 8 = nI wb ∧ S.1 73 65 = nI wb ∧ S.1 24 5 = nI (aNb S G) ∧ (∀ a, a < iw → iO S a < n ∧ iB S a ≤ w ∧ vmF S a < 2 ^ iB S a ∧ S.1 18 a = nI (iO S a) ∧ S.1 19 a = nI (iB S a) ∧ S.1 20 a = nI (Wb (iB S) a) ∧ S.1 115 a = nI (iO S a) ∧ S.1 116 a = nI (iB S a) ∧ S.1 117 a = nI (Wb (iB S) a) ∧ S.1 21 a = nI (vmF S a) ∧ S.2 118 a = lN (vmF S a)) ∧ LGt (fun g => S.1 113 g) (fun g => S.1 114 g) wb G ∧ ∀ g, g < G → S.1 25 g = S.1 113 g ∧ S.1 26 g = S.1 114 g ∧ S.1 28 g = (if gAn S g = true then nI (aNb S g) else -1) ∧ (S.1 111 g = 0 ↔ ¬ gAn S g = true) ∧ (S.1 111 g = 1 ↔ gAn S g = true)
/-- draws behind the inputs, behind the triples -/
def dI1 (q : Nat) (Qs : Nat → Int32) (s : Int32) (n : Nat) (S : zS) (iw : Nat) : Nat := aNj q Qs s n (iO S) (iB S) 0 iw
def dI2 (q : Nat) (Qs : Nat → Int32) (s : Int32) (n : Nat) (S : zS) (G iw : Nat) : Nat := tNk q Qs s n (dI1 q Qs s n S iw) (aNb S G)
def dTA (q : Nat) (Qs : Nat → Int32) (s : Int32) (n : Nat) (S : zS) (iw g : Nat) : Int32 := (tpA q Qs s n (tNk q Qs s n (dI1 q Qs s n S iw) (aNb S g))).1
def dTB (q : Nat) (Qs : Nat → Int32) (s : Int32) (n : Nat) (S : zS) (iw g : Nat) : Int32 := (tpB q Qs s n (tNk q Qs s n (dI1 q Qs s n S iw) (aNb S g))).1
def dTC (q : Nat) (Qs : Nat → Int32) (s : Int32) (n : Nat) (S : zS) (iw g : Nat) : Int32 := tpC q Qs s n (tNk q Qs s n (dI1 q Qs s n S iw) (aNb S g))
def DRc (n q : Nat) (Qs : Nat → Int32) (s : Int32) (S : zS) (G wb iw : Nat) (S' : zS) : Prop := S'.1 0 15 = 1 ∧ S'.1 0 16 = 0 ∧ (∀ a, a < iw → S'.1 22 a = S.1 21 a) ∧ S'.1 59 2 = nI (q - min (dI2 q Qs s n S G iw) q) ∧ S'.1 59 3 = 0 ∧ S'.1 59 4 = sdI q s (dI2 q Qs s n S G iw) ∧ (∀ k, k < q - min (dI2 q Qs s n S G iw) q → S'.1 60 k = Qs (min (dI2 q Qs s n S G iw) q + k)) ∧ (∀ a j, a < iw → j < iB S a → S'.1 64 (Wb (iB S) a + j) = shI q Qs s n (iO S) (iB S) (vmF S) 0 a j) ∧ (∀ g, g < G → gFx 64 S' (fun g => S.1 113 g) (fun g => S.1 114 g) (dTA q Qs s n S iw) (dTB q Qs s n S iw) (dTC q Qs s n S iw) (gAn S) wb g) ∧ (∀ j, j < aNb S G → TRk q Qs s n (dI1 q Qs s n S iw) S' j) ∧ FLc (bgL n n 0) S' ∧ (∀ p, p < n → S'.1 66 p = 0 ∧ S'.1 67 p = 0 ∧ S'.1 68 p = 0 ∧ S'.1 69 p = 0 ∧ S'.1 70 p = 0) ∧ S'.1 65 11 = 0 ∧ S'.1 65 12 = 0 ∧ (∀ c k, ¬ (c = 0 ∧ (k = 15 ∨ k = 16)) → ¬ c = 22 → ¬ (59 ≤ c ∧ c ≤ 64) → ¬ (c = 65 ∧ (10 ≤ k ∧ k ≤ 12)) → ¬ (66 ≤ c ∧ c ≤ 71) → S'.1 c k = S.1 c k) ∧ ∀ c k, S'.2 c k = S.2 c k
def DRm (n q f : Nat) (Qs : Nat → Int32) (s : Int32) (S : zS) (G wb iw : Nat) (S' : zS) : Prop := S'.1 73 124 = 1 ∧ S'.1 73 119 = 0 ∧ (∀ a, a < iw → S'.2 119 a = S.2 118 a) ∧ S'.1 73 121 = nI (q - dI2 q Qs s n S G iw) ∧ S'.1 73 122 = nI ((f + min (dI2 q Qs s n S G iw) q) % 2000) ∧ S'.1 73 120 = sdI q s (dI2 q Qs s n S G iw) ∧ (∀ a j, a < iw → j < iB S a → S'.1 151 (Wb (iB S) a + j) = shI q Qs s n (iO S) (iB S) (vmF S) 0 a j) ∧ (∀ g, g < G → gFx 151 S' (fun g => S.1 113 g) (fun g => S.1 114 g) (dTA q Qs s n S iw) (dTB q Qs s n S iw) (dTC q Qs s n S iw) (gAn S) wb g) ∧ (∀ g, g < G → S.1 111 g = 1 → TRm q Qs s n (dI1 q Qs s n S iw) S S' g) ∧ FLm (bgL n n 0) S' ∧ (∀ p, p < n → S'.1 157 p = 0 ∧ S'.1 158 p = 0 ∧ S'.1 159 p = 0 ∧ S'.1 160 p = 0 ∧ S'.1 161 p = 0) ∧ S'.1 73 140 = 0 ∧ (∀ c k, ¬ c < 73 → ¬ (c = 73 ∧ ((119 ≤ k ∧ k ≤ 124) ∨ k = 131 ∨ k = 139 ∨ k = 140)) → ¬ (151 ≤ c ∧ c ≤ 154) → ¬ (157 ≤ c ∧ c ≤ 166) → S'.1 c k = S.1 c k) ∧ ∀ c k, ¬ c = 119 → S'.2 c k = S.2 c k
section DEA
variable {l : Launch} {Gr : zG} {n w d q f G wb iw c : Nat} {S S' S0 : zS} {s : Int32} {Qs : Nat → Int32} {X Y TA TB TC : Nat → Int32} {an : Nat → Bool} {Q : Option Value → zS → Prop}
theorem shK_row {x : Int32} (h : ∀ k, S'.1 c k = S.1 c k) : shK c S' x = shK c S x := by
  unfold shK
  rw [h]
theorem gFx_row {g : Nat} (h : ∀ k, S'.1 c k = S.1 c k) (hx : gFx c S X Y TA TB TC an wb g) : gFx c S' X Y TA TB TC an wb g := by
  unfold gFx at hx ⊢
  rw [shK_row h, shK_row h, h]
  exact hx
theorem aNb_le : ∀ {a b : Nat}, a ≤ b → aNb S a ≤ aNb S b
  | a, 0, h => by
    rw [show a = 0 by omega]
    exact Nat.le_refl _
  | a, b + 1, h => by
    by_cases z : a = b + 1
    · rw [z]
      exact Nat.le_refl _
    · have := aNb_le (a := a) (b := b) (by omega)
      show aNb S a ≤ aNb S b + _
      omega
theorem aNb_n : ∀ m, aNb S m ≤ m
  | 0 => Nat.le_refl _
  | m + 1 => by
    have := aNb_n m
    show aNb S m + (if S.1 111 m = 1 then 1 else 0) ≤ m + 1
    split <;> omega
theorem aNb_lt {g G : Nat} (h : g < G) (ha : S.1 111 g = 1) : aNb S g < aNb S G := by
  have h1 : aNb S (g + 1) = aNb S g + 1 := by
    show aNb S g + (if S.1 111 g = 1 then 1 else 0) = _
    rw [if_pos ha]
  have := aNb_le (S := S) (a := g + 1) (b := G) (by omega)
  omega
theorem aNb_cg (h : ∀ g, S'.1 111 g = S.1 111 g) : ∀ m, aNb S' m = aNb S m
  | 0 => rfl
  | m + 1 => by
    show aNb S' m + (if S'.1 111 m = 1 then 1 else 0) = aNb S m + (if S.1 111 m = 1 then 1 else 0)
    rw [aNb_cg h m, h m]
/-- deal() of the class -/
theorem w_deal (hg : ip_gk (lg_tbl, vwCl, Gr)) (hn : 1 ≤ n ∧ n ≤ 16) (hw : w ≤ 32) (h14 : ¬ S.1 0 14 = 0) (hF : DFx n w S G wb iw) (hD : DCq q Qs s 0 S) (hQ : ∀ k, k < q → Qs k = 0 ∨ Qs k = 1) : zMi l Gr (zc n w) 168 M_H_deal (d + 4) [.ref 32] S (fun v S' => v = 1 ∧ DRc n q Qs s S G wb iw S') := by
  obtain ⟨f1, f2, f3, f4, f5, f6, f7, f8, f9, f10, f11, f12, f13, f14⟩ := hF
  have hm := aNb_n (S := S) G
  refine e_H_deal (b_H_deal_0 (fun _ => b_H_deal_9 hg (w_fix f3 f5) (fun S1 e => ?_)) (fun y => absurd y h14))
  obtain ⟨x1, x2, x3⟩ := e
  have hI1 : IDc n w iw (iO S) (iB S) (vmF S) S1 := ⟨f3, by rw [← f4]; exact f2, by rw [x2 17 6 (by omega)]; exact f5, fun a ha => by
    obtain ⟨i1, i2, i3, i4, i5, i6, -, -, -, i10, -⟩ := f12 a ha
    exact ⟨i1, i2, i3, by rw [x2 18 a (by omega)]; exact i4, by rw [x2 19 a (by omega)]; exact i5, by rw [x2 20 a (by omega)]; exact i6, by rw [x1 a ha]; exact i10⟩⟩
  have hD1 : DCq q Qs s 0 S1 := ⟨hD.1, by rw [x2 59 2 (by omega)]; exact hD.2.1, by rw [x2 59 3 (by omega)]; exact hD.2.2.1, by rw [x2 59 4 (by omega)]; exact hD.2.2.2.1, fun k hk => by rw [x2 60 k (by omega)]; exact hD.2.2.2.2 k hk⟩
  refine b_H_deal_16 hg (w_ci hg hn.2 hw hI1 hD1) (fun S2 e => ?_)
  obtain ⟨y1, y2, y3⟩ := e
  have e5 : S2.1 24 5 = nI (aNb S G) := by rw [y2.1 24 5 (by omega) (by omega), x2 24 5 (by omega)]; exact f11
  refine b_H_deal_27 hg (by rw [e5]; exact w_ct hg hn.2 (by omega) y1) (fun S3 e => ?_)
  obtain ⟨z1, z2, z3⟩ := e
  refine b_H_deal_41 hg (w_forget z1 hQ) (fun S4 e => ?_)
  obtain ⟨u1, u2, u3, u4, u5, u6⟩ := e
  have fr4 : ∀ c k, ¬ c = 22 → ¬ (59 ≤ c ∧ c ≤ 64) → S4.1 c k = S.1 c k := fun c k q1 q2 => by
    rw [u5 c k (by omega) (by omega), z3.1 c k (by omega) (by omega), y2.1 c k (by omega) (by omega), x2 c k q1]
  have t4 : ∀ j, j < aNb S G → TRk q Qs s n (dI1 q Qs s n S iw) S4 j := fun j hj => by
    obtain ⟨v1, v2, v3⟩ := z2 j hj
    exact ⟨by rw [u5 61 j (by omega) (by omega)]; exact v1, by rw [u5 62 j (by omega) (by omega)]; exact v2, by rw [u5 63 j (by omega) (by omega)]; exact v3⟩
  refine b_H_deal_48 hg (w_ws (X := fun g => S.1 113 g) (Y := fun g => S.1 114 g) (TA := dTA q Qs s n S iw) (TB := dTB q Qs s n S iw) (TC := dTC q Qs s n S iw) (an := gAn S) (cn := aNb S) (wb := wb) (G := G) hg hw f13 f1 f2 (by rw [fr4 24 4 (by omega) (by omega)]; exact f7) (by rw [fr4 24 8 (by omega) (by omega)]; exact f9) (fun g hg' => ?_)) (fun S5 e => ?_)
  · obtain ⟨g1, g2, g3, g4, g5⟩ := f14 g hg'
    refine ⟨by rw [fr4 25 g (by omega) (by omega)]; exact g1, by rw [fr4 26 g (by omega) (by omega)]; exact g2, by rw [fr4 28 g (by omega) (by omega)]; exact g3, fun ha => ?_⟩
    have hl := aNb_lt hg' (g5.mpr ha)
    obtain ⟨v1, v2, v3⟩ := t4 _ hl
    exact ⟨by omega, v1, v2, v3⟩
  · obtain ⟨v1, v2⟩ := e
    refine b_H_deal_59 hg (w_begin hg hn.2) (fun S6 e => ?_)
    obtain ⟨a1, a2, a3, a4, a5⟩ := e
    have fr6 : ∀ c k, ¬ (c = 64 ∧ wb ≤ k) → ¬ (c = 65 ∧ (10 ≤ k ∧ k ≤ 12)) → ¬ (66 ≤ c ∧ c ≤ 71) → S6.1 c k = S4.1 c k := fun c k q1 q2 q3 => by
      rw [a5.1 c k q2 q3, v1.1 c k q1]
    refine b_H_deal_66 ⟨_, rfl, Or.inr rfl, rfl, by rw [zi_k (by decide), zi_v], zi_v, fun a ha => ?_, ?_, ?_, ?_, fun k hk => ?_, fun a j ha hj => ?_, fun g hg' => ?_, fun j hj => ?_, ?_, fun p hp => ?_, ?_, ?_, fun c k q1 q2 q3 q4 q5 => ?_, fun c k => ?_⟩
    · rw [zi_c (by decide), zi_c (by decide), fr6 22 a (by omega) (by omega) (by omega), u5 22 a (by omega) (by omega), z3.1 22 a (by omega) (by omega), y2.1 22 a (by omega) (by omega)]
      exact x1 a ha
    · rw [zi_c (by decide), zi_c (by decide), fr6 59 2 (by omega) (by omega) (by omega)]
      exact u1
    · rw [zi_c (by decide), zi_c (by decide), fr6 59 3 (by omega) (by omega) (by omega)]
      exact u2
    · rw [zi_c (by decide), zi_c (by decide), fr6 59 4 (by omega) (by omega) (by omega)]
      exact u3
    · rw [zi_c (by decide), zi_c (by decide), fr6 60 k (by omega) (by omega) (by omega)]
      exact u4 k hk
    · have hl := Wb_le (bt := iB S) ha
      rw [zi_c (by decide), zi_c (by decide), fr6 64 _ (by omega) (by omega) (by omega), u5 64 _ (by omega) (by omega), z3.1 64 _ (by omega) (by omega)]
      exact y3 a j ha hj
    · refine gFx_row (S := S5) (fun k => ?_) (v2 g hg')
      rw [zi_c (by decide), zi_c (by decide), a5.1 64 k (by omega) (by omega)]
    · obtain ⟨w1, w2, w3⟩ := t4 j hj
      exact ⟨by rw [zi_c (by decide), zi_c (by decide), fr6 61 j (by omega) (by omega) (by omega)]; exact w1, by rw [zi_c (by decide), zi_c (by decide), fr6 62 j (by omega) (by omega) (by omega)]; exact w2, by rw [zi_c (by decide), zi_c (by decide), fr6 63 j (by omega) (by omega) (by omega)]; exact w3⟩
    · exact ⟨by rw [zi_c (by decide), zi_c (by decide)]; exact a1.1, fun k m hk => by rw [zi_c (by decide), zi_c (by decide)]; exact a1.2 k m hk⟩
    · obtain ⟨p1, p2, p3, p4, p5⟩ := a2 p hp
      exact ⟨by rw [zi_c (by decide), zi_c (by decide)]; exact p1, by rw [zi_c (by decide), zi_c (by decide)]; exact p2, by rw [zi_c (by decide), zi_c (by decide)]; exact p3, by rw [zi_c (by decide), zi_c (by decide)]; exact p4, by rw [zi_c (by decide), zi_c (by decide)]; exact p5⟩
    · rw [zi_c (by decide), zi_c (by decide)]
      exact a3
    · rw [zi_c (by decide), zi_c (by decide)]
      exact a4
    · rw [zi_get, if_neg (by omega), zi_get, if_neg (by omega), fr6 c k (by omega) q4 q5]
      exact fr4 c k q2 (by omega)
    · show S6.2 c k = S.2 c k
      rw [a5.2 c k, v1.2 c k, u6 c k, z3.2 c k, y2.2 c k, x3 c k]
theorem md_20 (hi : iw ≤ 256) (h75 : S0.1 73 75 = nI iw) (kk : ∀ S', (∀ a, a < iw → S'.2 119 a = S0.2 118 a) → (∀ c k, S'.1 c k = S0.1 c k) → (∀ c k, ¬ c = 119 → S'.2 c k = S0.2 c k) → zW l Gr (zc n w) 168 M_Mo_deal (d + 1) 46 [some (.ref 105), none] [] S' Q) : ∀ c a S, a + c = iw → (∀ b, b < a → S.2 119 b = S0.2 118 b) → (∀ c k, S.1 c k = S0.1 c k) → (∀ c k, ¬ c = 119 → S.2 c k = S0.2 c k) → zW l Gr (zc n w) 168 M_Mo_deal (d + 1) 20 [some (.ref 105), some (.int (nI a))] [] S Q
  | 0, a, S, h, h1, h2, h3 => by
    have ea : a = iw := by omega
    subst ea
    exact b_Mo_deal_20 (fun _ => kk S h1 h2 h3) (fun y => absurd (by rw [h2 73 75, h75]; exact nI_le (Nat.le_refl _) (by omega)) y)
  | c + 1, a, S, h, h1, h2, h3 => by
    refine b_Mo_deal_20 (fun y => absurd y (by rw [h2 73 75, h75]; exact nI_ge (by omega) (by omega))) (fun _ => b_Mo_deal_28 (vp_in_nI (by omega) (by omega)) ?_)
    rw [nI_clamp (by omega), show nI a + Int32.ofInt 1 = nI (a + 1) from nI_add a 1]
    refine md_20 hi h75 kk c (a + 1) _ (by omega) (fun b hb => ?_) (fun c k => h2 c k) (fun c k hc => by rw [zj_c hc]; exact h3 c k hc)
    by_cases z : b = a
    · rw [z, zj_v]
      exact h3 118 a (by omega)
    · rw [zj_k z]
      exact h1 b (by omega)
theorem md_52 (hn : n ≤ 16) (kk : ∀ S', (∀ p, p < n → S'.1 157 p = 0 ∧ S'.1 158 p = 0 ∧ S'.1 159 p = 0 ∧ S'.1 160 p = 0 ∧ S'.1 161 p = 0) → (∀ c k, ¬ (157 ≤ c ∧ c ≤ 161) → S'.1 c k = S0.1 c k) → (∀ c k, S'.2 c k = S0.2 c k) → zW l Gr (zc n w) 168 M_Mo_deal (d + 1) 101 [some (.ref 105), none] [] S' Q) : ∀ c a S, a + c = n → (∀ p, p < a → S.1 157 p = 0 ∧ S.1 158 p = 0 ∧ S.1 159 p = 0 ∧ S.1 160 p = 0 ∧ S.1 161 p = 0) → (∀ c k, ¬ (157 ≤ c ∧ c ≤ 161) → S.1 c k = S0.1 c k) → (∀ c k, S.2 c k = S0.2 c k) → zW l Gr (zc n w) 168 M_Mo_deal (d + 1) 52 [some (.ref 105), some (.int (nI a))] [] S Q
  | 0, a, S, h, h1, h2, h3 => by
    have ea : a = n := by omega
    subst ea
    exact b_Mo_deal_52 (fun _ => kk S h1 h2 h3) (fun y => absurd (nI_le (Nat.le_refl _) (by omega)) y)
  | c + 1, a, S, h, h1, h2, h3 => by
    refine b_Mo_deal_52 (fun y => absurd y (nI_ge (by omega) (by omega))) (fun _ => b_Mo_deal_60 (vp_in_nI (by omega) (by omega)) ?_)
    rw [nI_clamp (by omega), show nI a + Int32.ofInt 1 = nI (a + 1) from nI_add a 1]
    refine md_52 hn kk c (a + 1) _ (by omega) (fun p hp => ?_) (fun c k hc => ?_) (fun c k => h3 c k)
    · by_cases z : p = a
      · rw [z]
        exact ⟨by rw [zi_c (by decide), zi_c (by decide), zi_c (by decide), zi_c (by decide), zi_v], by rw [zi_c (by decide), zi_c (by decide), zi_c (by decide), zi_v], by rw [zi_c (by decide), zi_c (by decide), zi_v], by rw [zi_c (by decide), zi_v], zi_v⟩
      · obtain ⟨p1, p2, p3, p4, p5⟩ := h1 p (by omega)
        exact ⟨by rw [zi_c (by decide), zi_c (by decide), zi_c (by decide), zi_c (by decide), zi_k z]; exact p1, by rw [zi_c (by decide), zi_c (by decide), zi_c (by decide), zi_k z, zi_c (by decide)]; exact p2, by rw [zi_c (by decide), zi_c (by decide), zi_k z, zi_c (by decide), zi_c (by decide)]; exact p3, by rw [zi_c (by decide), zi_k z, zi_c (by decide), zi_c (by decide), zi_c (by decide)]; exact p4, by rw [zi_k z, zi_c (by decide), zi_c (by decide), zi_c (by decide), zi_c (by decide)]; exact p5⟩
    · rw [zi_get, if_neg (by omega), zi_get, if_neg (by omega), zi_get, if_neg (by omega), zi_get, if_neg (by omega), zi_get, if_neg (by omega)]
      exact h2 c k hc
theorem md_103 (hg : ip_gk (lg_tbl, vwCl, Gr)) (hn : n ≤ 16) : ∀ c p y L S, p + c = n → FLm L S → (∀ q, q < n → S.1 157 q = 0) → S.1 73 131 = nI y → L.length + c * (n - 1) ≤ 1000 → (∀ S', FLm (L ++ bgL n c p) S' → FSm S S' → Q (some (.int 1)) S') → zW l Gr (zc n w) 168 M_Mo_deal (d + 1) 103 [some (.ref 105), some (.int (nI p))] [] S Q
  | 0, p, y, L, S, h, hF, h157, h131, hl, kk => by
    exact b_Mo_deal_103 (fun _ => b_Mo_deal_122 (kk S (by show FLm (L ++ []) S; rw [List.append_nil]; exact hF) ⟨fun _ _ _ _ => rfl, fun _ _ => rfl⟩)) (fun y => absurd (nI_le (by omega) (by omega)) y)
  | c + 1, p, y, L, S, h, hF, h157, h131, hl, kk => by
    rw [Nat.succ_mul] at hl
    have e1 := sndL_all (n := n) (t := p) (r := 0) (by omega)
    refine b_Mo_deal_103 (fun y => absurd y (nI_ge (by omega) (by omega))) (fun _ => b_Mo_deal_111 hg (wm_send (r := 0) (y := y) hn (by omega) hF (h157 p (by omega)) h131 (by omega)) (fun S1 e => ?_))
    obtain ⟨f1, f2, f3⟩ := e
    refine b_Mo_deal_116 ?_
    rw [show nI p + Int32.ofInt 1 = nI (p + 1) from nI_add p 1]
    refine md_103 hg hn c (p + 1) _ _ S1 (by omega) f1 (fun q hq => by rw [f3.1 157 q (by omega) (by omega)]; exact h157 q hq) f2 (by rw [List.length_append]; omega) (fun S' a1 a2 => kk S' ?_ ⟨fun c k q1 q2 => (a2.1 c k q1 q2).trans (f3.1 c k q1 q2), fun c k => (a2.2 c k).trans (f3.2 c k)⟩)
    rw [List.append_assoc] at a1
    exact a1
end DEA
