/-! deal() of the reference; the turn -/
def FSA (S S' : zS) : Prop := (∀ c k, ¬ (c = 73 ∧ (120 ≤ k ∧ k ≤ 122)) → ¬ (151 ≤ c ∧ c ≤ 154) → S'.1 c k = S.1 c k) ∧ ∀ c k, S'.2 c k = S.2 c k
section DEM
variable {l : Launch} {Gr : zG} {n w d q f G wb iw c : Nat} {S S' S0 : zS} {s : Int32} {Qs : Nat → Int32} {Q : Option Value → zS → Prop}
/-- shareAll() of the reference -/
theorem wm_shareAll (hg : ip_gk (lg_tbl, vwCl, Gr)) (hn : 1 ≤ n ∧ n ≤ 16) (hw : w ≤ 32) (hF : DFx n w S G wb iw) (hS : ∀ c k, ¬ (c = 73 ∧ (119 ≤ k ∧ k ≤ 140)) → ¬ (c < 73) → S0.1 c k = S.1 c k) (h118 : ∀ a, a < iw → S0.2 119 a = S.2 118 a) (hD : DMq q f Qs s 0 S0) : zMv l Gr (zc n w) 168 M_Mo_shareAll (d + 2) [.ref 105] S0 (fun S' => DMq q f Qs s (dI2 q Qs s n S G iw) S' ∧ (∀ a j, a < iw → j < iB S a → S'.1 151 (Wb (iB S) a + j) = shI q Qs s n (iO S) (iB S) (vmF S) 0 a j) ∧ (∀ g, g < G → gFx 151 S' (fun g => S.1 113 g) (fun g => S.1 114 g) (dTA q Qs s n S iw) (dTB q Qs s n S iw) (dTC q Qs s n S iw) (gAn S) wb g) ∧ (∀ g, g < G → S.1 111 g = 1 → TRm q Qs s n (dI1 q Qs s n S iw) S S' g) ∧ FSA S0 S') := by
  obtain ⟨f1, f2, f3, f4, f5, f6, f7, f8, f9, f10, f11, f12, f13, f14⟩ := hF
  have hI : IDm n w iw (iO S) (iB S) (vmF S) S0 := ⟨f3, by rw [← f4]; exact f2, by rw [hS 73 75 (by omega) (by omega)]; exact f6, fun a ha => by
    obtain ⟨i1, i2, i3, -, -, -, i7, i8, i9, -, i11⟩ := f12 a ha
    exact ⟨i1, i2, i3, by rw [hS 115 a (by omega) (by omega)]; exact i7, by rw [hS 116 a (by omega) (by omega)]; exact i8, by rw [hS 117 a (by omega) (by omega)]; exact i9, by rw [h118 a ha]; exact i11⟩⟩
  refine e_Mo_shareAll (b_Mo_shareAll_0 (mi_2 hg hn.2 hw hI (fun S1 d1 r1 h1 => b_Mo_shareAll_123 ?_) iw 0 S0 (by omega) hD ⟨fun _ _ _ _ => rfl, fun _ _ => rfl⟩ (fun a' j' h => absurd h (Nat.not_lt_zero _))))
  have s1 : ∀ c k, ¬ (c = 73 ∧ (119 ≤ k ∧ k ≤ 140)) → ¬ (c < 73) → ¬ c = 151 → S1.1 c k = S.1 c k := fun c k q1 q2 q3 => by
    rw [r1.1 c k (by omega) q3]
    exact hS c k q1 q2
  have ea : ∀ m, aNb S1 m = aNb S m := aNb_cg (fun g => s1 111 g (by omega) (by omega) (by omega))
  refine m_tr (i0 := dI1 q Qs s n S iw) (S0 := S1) (G := G) hg hn f1 (by rw [s1 73 66 (by omega) (by omega) (by omega)]; exact f8) (fun S2 d2 t2 r2 => b_Mo_shareAll_280 ?_) G 0 S1 (by omega) d1 (fun j hj => absurd hj (Nat.not_lt_zero _)) ⟨fun _ _ _ _ => rfl, fun _ _ => rfl⟩
  have s2 : ∀ c k, ¬ (c = 73 ∧ (119 ≤ k ∧ k ≤ 140)) → ¬ (c < 73) → ¬ (151 ≤ c ∧ c ≤ 154) → S2.1 c k = S.1 c k := fun c k q1 q2 q3 => by
    rw [r2.1 c k (by omega) (by omega)]
    exact s1 c k q1 q2 (by omega)
  have t2' : ∀ g, g < G → S.1 111 g = 1 → TRm q Qs s n (dI1 q Qs s n S iw) S S2 g := fun g hg' h => by
    have := t2 g hg' (by rw [s1 111 g (by omega) (by omega) (by omega)]; exact h)
    unfold TRm at this ⊢
    rw [ea g] at this
    exact this
  refine ms_282 (X := fun g => S.1 113 g) (Y := fun g => S.1 114 g) (TA := dTA q Qs s n S iw) (TB := dTB q Qs s n S iw) (TC := dTC q Qs s n S iw) (an := gAn S) (wb := wb) (G := G) (S0 := S2) hg f13 f1 (by omega) (by rw [s2 73 66 (by omega) (by omega) (by omega)]; exact f8) (by rw [s2 73 65 (by omega) (by omega) (by omega)]; exact f10) (fun g hg' => ?_) (fun S3 r3 h3 => ⟨rfl, ?_, fun a j ha hj => ?_, h3, fun g hg' h => ?_, fun c k q1 q2 => ?_, fun c k => ?_⟩) G 0 S2 (by omega) ⟨fun _ _ _ => rfl, fun _ _ => rfl⟩ (fun g' h => absurd h (Nat.not_lt_zero _))
  · obtain ⟨g1, g2, g3, g4, g5⟩ := f14 g hg'
    refine ⟨s2 113 g (by omega) (by omega) (by omega), s2 114 g (by omega) (by omega) (by omega), by rw [s2 111 g (by omega) (by omega) (by omega)]; exact g4, fun ha => ?_⟩
    exact t2' g hg' (g5.mpr ha)
  · rw [ea G] at d2
    exact ⟨d2.1, d2.2.1, by rw [r3.1 73 121 (by omega)]; exact d2.2.2.1, by rw [r3.1 73 122 (by omega)]; exact d2.2.2.2.1, by rw [r3.1 73 120 (by omega)]; exact d2.2.2.2.2.1, fun k hk => by rw [r3.1 150 _ (by omega)]; exact d2.2.2.2.2.2 k hk⟩
  · have hl := Wb_le (bt := iB S) ha
    rw [r3.1 151 _ (by omega), r2.1 151 _ (by omega) (by omega)]
    exact h1 a j ha hj
  · obtain ⟨v1, v2, v3⟩ := t2' g hg' h
    exact ⟨by rw [r3.1 152 g (by omega)]; exact v1, by rw [r3.1 153 g (by omega)]; exact v2, by rw [r3.1 154 g (by omega)]; exact v3⟩
  · rw [r3.1 c k (by omega), r2.1 c k (by omega) (by omega), r1.1 c k (by omega) (by omega)]
  · rw [r3.2 c k, r2.2 c k, r1.2 c k]
/-- deal() of the reference, in a store T that has the reference's cells of S -/
theorem wm_deal {T : zS} (hg : ip_gk (lg_tbl, vwCl, Gr)) (hn : 1 ≤ n ∧ n ≤ 16) (hw : w ≤ 32) (h83 : ¬ S.1 73 83 = 0) (hF : DFx n w S G wb iw) (hT : ∀ c k, ¬ c < 73 → T.1 c k = S.1 c k) (hT2 : ∀ c k, T.2 c k = S.2 c k) (h131 : ∃ y, S.1 73 131 = nI y) (hD : DMq q f Qs s 0 S) : zMi l Gr (zc n w) 168 M_Mo_deal (d + 3) [.ref 105] T (fun v S' => v = 1 ∧ DRm n q f Qs s S G wb iw S' ∧ ∀ c k, c < 73 → S'.1 c k = T.1 c k) := by
  have hF' := hF
  obtain ⟨f1, f2, f3, f4, f5, f6, f7, f8, f9, f10, f11, f12, f13, f14⟩ := hF'
  obtain ⟨y, h131⟩ := h131
  refine e_Mo_deal (b_Mo_deal_0 (fun _ => b_Mo_deal_9 hg (e_Mo_forget (R := fun S' => S' = zi (zi (zi (zi T 73 124 0) 73 139 0) 73 140 0) 73 119 0) (b_Mo_forget_0 ⟨rfl, rfl⟩)) (fun S1 e1 => b_Mo_deal_13 ?_)) (fun z => absurd (by rw [hT 73 83 (by omega)] at z; exact z) h83))
  have r1 : ∀ c k, ¬ (c = 73 ∧ (k = 124 ∨ k = 139 ∨ k = 140 ∨ k = 119)) → (zi S1 73 124 1).1 c k = T.1 c k := fun c k q => by
    rw [zi_get, if_neg (by omega), e1, zi_get, if_neg (by omega), zi_get, if_neg (by omega), zi_get, if_neg (by omega), zi_get, if_neg (by omega)]
  have v124 : (zi S1 73 124 1).1 73 124 = 1 := zi_v
  have v139 : (zi S1 73 124 1).1 73 139 = 0 := by rw [zi_k (by decide), e1, zi_k (by decide), zi_k (by decide), zi_v]
  have v140 : (zi S1 73 124 1).1 73 140 = 0 := by rw [zi_k (by decide), e1, zi_k (by decide), zi_v]
  have v119 : (zi S1 73 124 1).1 73 119 = 0 := by rw [zi_k (by decide), e1, zi_v]
  have r12 : ∀ c k, (zi S1 73 124 1).2 c k = T.2 c k := fun c k => by
    show S1.2 c k = _
    rw [e1]
    rfl
  refine md_20 (S0 := zi S1 73 124 1) f3 (by rw [r1 73 75 (by omega), hT 73 75 (by omega)]; exact f6) (fun S2 h2 r2 r22 => ?_) iw 0 _ (by omega) (fun b hb => absurd hb (Nat.not_lt_zero _)) (fun _ _ => rfl) (fun _ _ _ => rfl)
  have s2 : ∀ c k, ¬ (c = 73 ∧ (k = 124 ∨ k = 139 ∨ k = 140 ∨ k = 119)) → S2.1 c k = T.1 c k := fun c k q => (r2 c k).trans (r1 c k q)
  refine b_Mo_deal_46 hg (wm_shareAll (S0 := S2) (q := q) (f := f) (Qs := Qs) (s := s) hg hn hw hF (fun c k q1 q2 => (s2 c k (by omega)).trans (hT c k q2)) (fun a ha => by rw [h2 a ha, r12 118 a, hT2 118 a]) ⟨hD.1, hD.2.1, by rw [s2 73 121 (by omega), hT 73 121 (by omega)]; exact hD.2.2.1, by rw [s2 73 122 (by omega), hT 73 122 (by omega)]; exact hD.2.2.2.1, by rw [s2 73 120 (by omega), hT 73 120 (by omega)]; exact hD.2.2.2.2.1, fun k hk => by rw [s2 150 _ (by omega), hT 150 _ (by omega)]; exact hD.2.2.2.2.2 k hk⟩) (fun S3 e => ?_)
  obtain ⟨a1, a2, a3, a4, a5⟩ := e
  refine b_Mo_deal_50 (md_52 (S0 := S3) hn.2 (fun S4 z4 r4 r42 => b_Mo_deal_101 ?_) n 0 S3 (by omega) (fun p hp => absurd hp (Nat.not_lt_zero _)) (fun _ _ _ => rfl) (fun _ _ => rfl))
  have s4 : ∀ c k, ¬ (c = 73 ∧ ((119 ≤ k ∧ k ≤ 124) ∨ k = 139 ∨ k = 140)) → ¬ (151 ≤ c ∧ c ≤ 154) → ¬ (157 ≤ c ∧ c ≤ 161) → S4.1 c k = T.1 c k := fun c k q1 q2 q3 => by
    rw [r4 c k q3, a5.1 c k (by omega) q2, s2 c k (by omega)]
  have n240 : n * (n - 1) ≤ 240 := Nat.mul_le_mul hn.2 (show n - 1 ≤ 15 by omega)
  refine md_103 hg hn.2 n 0 y [] S4 (by omega) ⟨?_, fun k m hk => absurd hk (by simp)⟩ (fun p hp => (z4 p hp).1) ?_ (by show 0 + n * (n - 1) ≤ 1000; omega) (fun S5 l5 r5 => ⟨_, rfl, Or.inr rfl, rfl, ⟨?_, ?_, fun a ha => ?_, ?_, ?_, ?_, fun a j ha hj => ?_, fun g hg' => ?_, fun g hg' h => ?_, l5, fun p hp => ?_, ?_, fun c k q0 q1 q2 q3 => ?_, fun c k q => ?_⟩, fun c k q => ?_⟩)
  · rw [r4 73 139 (by omega), a5.1 73 139 (by omega) (by omega), r2 73 139]
    exact v139
  · rw [s4 73 131 (by omega) (by omega) (by omega), hT 73 131 (by omega)]
    exact h131
  · rw [r5.1 73 124 (by omega) (by omega), r4 73 124 (by omega), a5.1 73 124 (by omega) (by omega), r2 73 124]
    exact v124
  · rw [r5.1 73 119 (by omega) (by omega), r4 73 119 (by omega), a5.1 73 119 (by omega) (by omega), r2 73 119]
    exact v119
  · rw [r5.2 119 a, r42 119 a, a5.2 119 a, h2 a ha, r12 118 a, hT2 118 a]
  · rw [r5.1 73 121 (by omega) (by omega), r4 73 121 (by omega)]
    exact a1.2.2.1
  · rw [r5.1 73 122 (by omega) (by omega), r4 73 122 (by omega)]
    exact a1.2.2.2.1
  · rw [r5.1 73 120 (by omega) (by omega), r4 73 120 (by omega)]
    exact a1.2.2.2.2.1
  · rw [r5.1 151 _ (by omega) (by omega), r4 151 _ (by omega)]
    exact a2 a j ha hj
  · exact gFx_row (S := S3) (fun k => by rw [r5.1 151 k (by omega) (by omega), r4 151 k (by omega)]) (a3 g hg')
  · obtain ⟨v1, v2, v3⟩ := a4 g hg' h
    exact ⟨by rw [r5.1 152 g (by omega) (by omega), r4 152 g (by omega)]; exact v1, by rw [r5.1 153 g (by omega) (by omega), r4 153 g (by omega)]; exact v2, by rw [r5.1 154 g (by omega) (by omega), r4 154 g (by omega)]; exact v3⟩
  · obtain ⟨p1, p2, p3, p4, p5⟩ := z4 p hp
    exact ⟨by rw [r5.1 157 p (by omega) (by omega)]; exact p1, by rw [r5.1 158 p (by omega) (by omega)]; exact p2, by rw [r5.1 159 p (by omega) (by omega)]; exact p3, by rw [r5.1 160 p (by omega) (by omega)]; exact p4, by rw [r5.1 161 p (by omega) (by omega)]; exact p5⟩
  · rw [r5.1 73 140 (by omega) (by omega), r4 73 140 (by omega), a5.1 73 140 (by omega) (by omega), r2 73 140]
    exact v140
  · rw [r5.1 c k (by omega) (by omega), s4 c k (by omega) (by omega) (by omega), hT c k q0]
  · rw [r5.2 c k, r42 c k, a5.2 c k, r22 c k q, r12 c k, hT2 c k]
  · rw [r5.1 c k (by omega) (by omega), s4 c k (by omega) (by omega) (by omega)]
end DEM
