/-! draws: both take the same bits -/
def lcg (s : Int32) : Int32 := (s * 1103515245) + 12345
def lgb (s : Int32) : Int32 := (((s : Int32)).toUInt32 >>> (((16 : Int32)).toUInt32 &&& Int32.toUInt32 31)).toInt32 &&& 1
/-- the seed behind i draws, q of them waiting -/
def sdI (q : Nat) (s : Int32) : Nat → Int32
  | 0 => s
  | i + 1 => if i < q then sdI q s i else lcg (sdI q s i)
/-- draw i -/
def dB (q : Nat) (Qs : Nat → Int32) (s : Int32) (i : Nat) : Int32 := if i < q then Qs i else lgb (lcg (sdI q s i))
/-- the class behind i draws -/
def DCq (q : Nat) (Qs : Nat → Int32) (s : Int32) (i : Nat) (S : zS) : Prop := q ≤ 2000 ∧ S.1 59 2 = nI q ∧ S.1 59 3 = nI (min i q) ∧ S.1 59 4 = sdI q s i ∧ ∀ k, k < q → S.1 60 k = Qs k
def DMq (q f : Nat) (Qs : Nat → Int32) (s : Int32) (i : Nat) (S : zS) : Prop := q ≤ 2000 ∧ f < 2000 ∧ S.1 73 121 = nI (q - i) ∧ S.1 73 122 = nI ((f + min i q) % 2000) ∧ S.1 73 120 = sdI q s i ∧ ∀ k, k < q → S.1 150 ((f + k) % 2000) = Qs k
/-- what draws leave -/
def FDc (S S' : zS) : Prop := (∀ c k, ¬ (c = 59 ∧ (k = 3 ∨ k = 4)) → S'.1 c k = S.1 c k) ∧ ∀ c k, S'.2 c k = S.2 c k
def FDm (S S' : zS) : Prop := (∀ c k, ¬ (c = 73 ∧ (120 ≤ k ∧ k ≤ 122)) → S'.1 c k = S.1 c k) ∧ ∀ c k, S'.2 c k = S.2 c k
/-- draws i, i + 1, .. for each party p .. n but one, from x on: the bits and how many draws then -/
def dBut (q : Nat) (Qs : Nat → Int32) (s : Int32) (le : Nat → Bool) : Nat → Nat → Nat → Int32 → Int32 × Nat
  | 0, _, i, x => (x, i)
  | c + 1, p, i, x => if le p = true then dBut q Qs s le c (p + 1) i x else dBut q Qs s le c (p + 1) (i + 1) (x ||| (dB q Qs s i <<< (nI p &&& 31)))
section DRW
variable {l : Launch} {Gr : zG} {n w d q f i : Nat} {S S' S'' : zS} {s x : Int32} {Qs : Nat → Int32} {Q : Option Value → zS → Prop} {le : Nat → Bool}
theorem FDc_rfl : FDc S S := ⟨fun _ _ _ => rfl, fun _ _ => rfl⟩
theorem FDc_tr (h1 : FDc S S') (h2 : FDc S' S'') : FDc S S'' := ⟨fun c k z => (h2.1 c k z).trans (h1.1 c k z), fun c k => (h2.2 c k).trans (h1.2 c k)⟩
theorem FDm_rfl : FDm S S := ⟨fun _ _ _ => rfl, fun _ _ => rfl⟩
theorem FDm_tr (h1 : FDm S S') (h2 : FDm S' S'') : FDm S S'' := ⟨fun c k z => (h2.1 c k z).trans (h1.1 c k z), fun c k => (h2.2 c k).trans (h1.2 c k)⟩
theorem w_draw (h : DCq q Qs s i S) : zMi l Gr (zc n w) 168 M_Dealer_draw d [.ref 91] S (fun v S' => v = dB q Qs s i ∧ DCq q Qs s (i + 1) S' ∧ FDc S S') := by
  obtain ⟨hq, h2, h3, h4, h60⟩ := h
  by_cases z : i < q
  · have e3 : S.1 59 3 = nI i := by rw [h3, Nat.min_eq_left (by omega)]
    have es : S.1 59 3 + 1 - 1 = nI i := by
      rw [e3, show (nI i + 1 : Int32) = nI (i + 1) from nI_add i 1]
      exact nI_subb i 1
    refine e_Dealer_draw (b_Dealer_draw_0 (fun y => absurd y (by rw [h2, e3]; exact nI_ge z (by omega))) (fun _ => b_Dealer_draw_11 (by rw [es]; exact vp_in_nI (by omega) (by omega)) ⟨_, rfl, ?_, ⟨hq, ?_, ?_, ?_, fun k hk => ?_⟩, fun c k y => ?_, fun _ _ => rfl⟩))
    · rw [es, nI_clamp (by omega)]
      unfold dB
      rw [if_pos z]
      exact h60 i z
    · rw [zi_k (by decide)]; exact h2
    · rw [zi_v, e3, Nat.min_eq_left (by omega)]
      exact nI_add i 1
    · rw [zi_k (by decide), h4]
      show _ = if i < q then sdI q s i else _
      rw [if_pos z]
    · rw [zi_c (by decide)]; exact h60 k hk
    · rw [zi_get, if_neg (by omega)]
  · have e3 : S.1 59 3 = nI q := by rw [h3, Nat.min_eq_right (by omega)]
    refine e_Dealer_draw (b_Dealer_draw_0 (fun _ => b_Dealer_draw_33 ⟨_, rfl, ?_, ⟨hq, ?_, ?_, ?_, fun k hk => ?_⟩, fun c k y => ?_, fun _ _ => rfl⟩) (fun y => absurd (by rw [h2, e3]; exact nI_le (Nat.le_refl _) (by omega)) y))
    · unfold dB
      rw [if_neg z, h4]
      rfl
    · rw [zi_k (by decide)]; exact h2
    · rw [zi_k (by decide), e3, Nat.min_eq_right (by omega)]
    · rw [zi_v, h4]
      show _ = if i < q then sdI q s i else _
      rw [if_neg z]
      rfl
    · rw [zi_c (by decide)]; exact h60 k hk
    · rw [zi_get, if_neg (by omega)]
theorem wm_draw (h : DMq q f Qs s i S) : zMi l Gr (zc n w) 168 M_Mo_draw d [.ref 105] S (fun v S' => v = dB q Qs s i ∧ DMq q f Qs s (i + 1) S' ∧ FDm S S') := by
  obtain ⟨hq, hf, h1, h2, h0, h150⟩ := h
  by_cases z : i < q
  · have e2 : S.1 73 122 = nI ((f + i) % 2000) := by rw [h2, Nat.min_eq_left (by omega)]
    have hlt : (f + i) % 2000 < 2000 := Nat.mod_lt _ (by omega)
    refine e_Mo_draw (b_Mo_draw_0 (fun y => absurd y (by rw [h1]; exact nI_ge (a := 0) (by omega) (by omega))) (fun _ => b_Mo_draw_7 (by rw [e2]; exact vp_in_nI hlt (by omega)) ⟨_, rfl, ?_, ⟨hq, hf, ?_, ?_, ?_, fun k hk => ?_⟩, fun c k y => ?_, fun _ _ => rfl⟩))
    · rw [e2, nI_clamp (by omega)]
      unfold dB
      rw [if_pos z]
      exact h150 i z
    · rw [zi_v, h1, show q - i = (q - (i + 1)) + 1 by omega]
      exact nI_subb (q - (i + 1)) 1
    · rw [zi_k (by decide), zi_v, e2, Nat.min_eq_left (by omega), show (nI ((f + i) % 2000) + 1 : Int32) = nI ((f + i) % 2000 + 1) from nI_add _ 1]
      refine (pk_rem (a := (f + i) % 2000 + 1) (d := 2000) (by omega) (by omega) (by omega)).trans ?_
      congr 1
      omega
    · rw [zi_k (by decide), zi_k (by decide), h0]
      show _ = if i < q then sdI q s i else _
      rw [if_pos z]
    · rw [zi_c (by decide), zi_c (by decide)]; exact h150 k hk
    · rw [zi_get, if_neg (by omega), zi_get, if_neg (by omega)]
  · refine e_Mo_draw (b_Mo_draw_0 (fun _ => b_Mo_draw_43 ⟨_, rfl, ?_, ⟨hq, hf, ?_, ?_, ?_, fun k hk => ?_⟩, fun c k y => ?_, fun _ _ => rfl⟩) (fun y => absurd (by rw [h1, show q - i = 0 by omega]; decide) y))
    · unfold dB
      rw [if_neg z, h0]
      rfl
    · rw [zi_k (by decide), h1, show q - i = q - (i + 1) by omega]
    · rw [zi_k (by decide), h2, Nat.min_eq_right (by omega), Nat.min_eq_right (by omega)]
    · rw [zi_v, h0]
      show _ = if i < q then sdI q s i else _
      rw [if_neg z]
      rfl
    · rw [zi_c (by decide)]; exact h150 k hk
    · rw [zi_get, if_neg (by omega)]
theorem w_dbut_4 {x1 : Int32} (hg : ip_gk (lg_tbl, vwCl, Gr)) (hn : n ≤ 16) (hle : ∀ p, p < n → (le p = true ↔ nI p = x1)) : ∀ c p i x S, p + c = n → DCq q Qs s i S → (∀ S', DCq q Qs s (dBut q Qs s le c p i x).2 S' → FDc S S' → Q (some (.int (dBut q Qs s le c p i x).1)) S') → zW l Gr (zc n w) 168 M_Dealer_drawBut (d + 1) 4 [some (.ref 91), some (.int x1), some (.int x), some (.int (nI p))] [] S Q
  | 0, p, i, x, S, h, hD, kk => by
    have ep : p = n := by omega
    exact b_Dealer_drawBut_4 (fun _ => b_Dealer_drawBut_32 (kk S hD FDc_rfl)) (fun y => absurd (nI_le (by omega) (by omega)) y)
  | c + 1, p, i, x, S, h, hD, kk => by
    refine b_Dealer_drawBut_4 (fun y => absurd y (nI_ge (by omega) (by omega))) (fun _ => b_Dealer_drawBut_12 (fun y => b_Dealer_drawBut_26 ?_) (fun y => b_Dealer_drawBut_17 hg (w_draw hD) (fun v S' hS => b_Dealer_drawBut_22 (b_Dealer_drawBut_26 ?_))))
    · have e : dBut q Qs s le (c + 1) p i x = dBut q Qs s le c (p + 1) i x := if_pos ((hle p (by omega)).mpr y)
      rw [e] at kk
      rw [show nI p + Int32.ofInt 1 = nI (p + 1) from nI_add p 1]
      exact w_dbut_4 hg hn hle c (p + 1) i x S (by omega) hD kk
    · have e : dBut q Qs s le (c + 1) p i x = dBut q Qs s le c (p + 1) (i + 1) (x ||| (dB q Qs s i <<< (nI p &&& 31))) := if_neg (fun z => y ((hle p (by omega)).mp z))
      rw [e] at kk
      obtain ⟨rfl, h2, h3⟩ := hS
      rw [show nI p + Int32.ofInt 1 = nI (p + 1) from nI_add p 1]
      exact w_dbut_4 hg hn hle c (p + 1) (i + 1) _ S' (by omega) h2 (fun S2 a1 a2 => kk S2 a1 (FDc_tr h3 a2))
/-- drawBut() of the class -/
theorem w_dbut {x1 : Int32} (hg : ip_gk (lg_tbl, vwCl, Gr)) (hn : n ≤ 16) (hle : ∀ p, p < n → (le p = true ↔ nI p = x1)) (hD : DCq q Qs s i S) : zMi l Gr (zc n w) 168 M_Dealer_drawBut (d + 1) [.ref 91, .int x1] S (fun v S' => v = (dBut q Qs s le n 0 i 0).1 ∧ DCq q Qs s (dBut q Qs s le n 0 i 0).2 S' ∧ FDc S S') :=
  e_Dealer_drawBut (b_Dealer_drawBut_0 (w_dbut_4 hg hn hle n 0 i 0 S (by omega) hD (fun S' a1 a2 => ⟨_, rfl, rfl, a1, a2⟩)))
end DRW
