/-! ready bytes and the tape, of both objects -/
def cb (v : Int32) (i : Nat) : Int32 := ((((((v : Int32)).toUInt32 >>> ((((24 - (8 * nI i)) : Int32)).toUInt32 &&& Int32.toUInt32 31)).toInt32).toInt8.toInt32 : Int32).toInt8.toInt32)
def mb (v : Int32) (i : Nat) : Int32 := ((v >>> ((24 - (8 * nI i)) &&& 31)) &&& 255)
def bt (x y : Int32) : Prop := ∃ b : Nat, b < 256 ∧ y = nI b ∧ x = (nI b).toInt8.toInt32
theorem t8 (a b : Int32) (h : ∀ i : Nat, i < 8 → a.toBitVec.getLsbD i = b.toBitVec.getLsbD i) : a.toInt8 = b.toInt8 := by
  apply Int8.toBitVec_inj.mp
  apply BitVec.eq_of_getLsbD_eq
  intro i hi
  rw [Int32.toBitVec_toInt8, Int32.toBitVec_toInt8, BitVec.getLsbD_signExtend, BitVec.getLsbD_signExtend]
  rw [if_pos (show i < 32 by omega), if_pos (show i < 32 by omega), h i hi]
theorem t88 (a : Int32) : (a.toInt8.toInt32).toInt8 = a.toInt8 := by
  apply Int8.toInt_inj.mp
  rw [Int32.toInt_toInt8, Int8.toInt_toInt32]
  have h1 := Int8.le_toInt a.toInt8
  have h2 := Int8.toInt_lt a.toInt8
  exact Int.bmod_eq_of_le (by omega) (by omega)
theorem cb_mb (v : Int32) (i : Nat) (hi : i < 4) : cb v i = (mb v i).toInt8.toInt32 := by
  unfold cb mb
  rw [t88]
  congr 1
  apply t8
  intro k hk
  have h255 : (255 : Int32).toBitVec.getLsbD k = true := by
    match k, hk with
    | 0, _ => rfl
    | 1, _ => rfl
    | 2, _ => rfl
    | 3, _ => rfl
    | 4, _ => rfl
    | 5, _ => rfl
    | 6, _ => rfl
    | 7, _ => rfl
  rw [Int32.toBitVec_and, BitVec.getLsbD_and, h255, Bool.and_true]
  match i, hi with
  | 0, _ =>
    have e1 : ((24 - (8 * nI 0) : Int32).toUInt32 &&& Int32.toUInt32 31) = 24 := by decide
    have e2 : ((24 - (8 * nI 0) : Int32) &&& 31) = 24 := by decide
    rw [e1, e2]
    have L : ((v.toUInt32 >>> (24 : UInt32)).toInt32).toBitVec = v.toBitVec >>> 24 := rfl
    have R : (v >>> (24 : Int32)).toBitVec = v.toBitVec.sshiftRight 24 := rfl
    rw [L, R, BitVec.getLsbD_ushiftRight, BitVec.getLsbD_sshiftRight, if_pos (by omega), decide_eq_false (by omega)]
    rfl
  | 1, _ =>
    have e1 : ((24 - (8 * nI 1) : Int32).toUInt32 &&& Int32.toUInt32 31) = 16 := by decide
    have e2 : ((24 - (8 * nI 1) : Int32) &&& 31) = 16 := by decide
    rw [e1, e2]
    have L : ((v.toUInt32 >>> (16 : UInt32)).toInt32).toBitVec = v.toBitVec >>> 16 := rfl
    have R : (v >>> (16 : Int32)).toBitVec = v.toBitVec.sshiftRight 16 := rfl
    rw [L, R, BitVec.getLsbD_ushiftRight, BitVec.getLsbD_sshiftRight, if_pos (by omega), decide_eq_false (by omega)]
    rfl
  | 2, _ =>
    have e1 : ((24 - (8 * nI 2) : Int32).toUInt32 &&& Int32.toUInt32 31) = 8 := by decide
    have e2 : ((24 - (8 * nI 2) : Int32) &&& 31) = 8 := by decide
    rw [e1, e2]
    have L : ((v.toUInt32 >>> (8 : UInt32)).toInt32).toBitVec = v.toBitVec >>> 8 := rfl
    have R : (v >>> (8 : Int32)).toBitVec = v.toBitVec.sshiftRight 8 := rfl
    rw [L, R, BitVec.getLsbD_ushiftRight, BitVec.getLsbD_sshiftRight, if_pos (by omega), decide_eq_false (by omega)]
    rfl
  | 3, _ =>
    have e1 : ((24 - (8 * nI 3) : Int32).toUInt32 &&& Int32.toUInt32 31) = 0 := by decide
    have e2 : ((24 - (8 * nI 3) : Int32) &&& 31) = 0 := by decide
    rw [e1, e2]
    have L : ((v.toUInt32 >>> (0 : UInt32)).toInt32).toBitVec = v.toBitVec >>> 0 := rfl
    have R : (v >>> (0 : Int32)).toBitVec = v.toBitVec.sshiftRight 0 := rfl
    rw [L, R, BitVec.getLsbD_ushiftRight, BitVec.getLsbD_sshiftRight, if_pos (by omega), decide_eq_false (by omega)]
    rfl
theorem bt_cm (v : Int32) (i : Nat) (hi : i < 4) : bt (cb v i) (mb v i) := by
  obtain ⟨b, hb, e⟩ := pk_andE (v >>> ((24 - (8 * nI i)) &&& 31)) (m := 255) 8 (by decide)
  exact ⟨b, hb, e, by rw [cb_mb v i hi]; unfold mb; rw [e]⟩
/-- T is S but for places a .. a + n - 1 of the row r, which hold f -/
def pI (S T : zS) (r a n : Nat) (f : Nat → Int32) : Prop := (∀ c, c ≠ r → T.1 c = S.1 c) ∧ T.2 = S.2 ∧ (∀ k, (k < a ∨ a + n ≤ k) → T.1 r k = S.1 r k) ∧ ∀ i, i < n → T.1 r (a + i) = f i
theorem pI_0 (S : zS) (r a : Nat) (f : Nat → Int32) : pI S S r a 0 f := ⟨fun _ _ => rfl, rfl, fun _ _ => rfl, fun i h => absurd h (Nat.not_lt_zero i)⟩
theorem pI_s {S T : zS} {r a i : Nat} {f : Nat → Int32} (h : pI S T r a i f) : pI S (zi T r (a + i) (f i)) r a (i + 1) f := by
  refine ⟨fun c hc => ?_, h.2.1, fun k hk => ?_, fun q hq => ?_⟩
  · show (if c = r then _ else T.1 c) = _
    rw [if_neg hc]
    exact h.1 c hc
  · rw [zi_k (by omega)]
    exact h.2.2.1 k (by omega)
  · by_cases e : q = i
    · subst e
      exact zi_v
    · rw [zi_k (by omega)]
      exact h.2.2.2 q (by omega)
section RT
variable {l : Launch} {Gr : zG} {n w : Nat} {d : Nat} {S : zS}
theorem w_pr {a : Nat} (ha : a ≤ 16) {v : Int32} {S0 : zS} : ∀ (j i : Nat) (S : zS), i + j = 4 → pI S0 S 1 a i (cb v) → zW l Gr (zc n w) 168 M_H_putReady d 2 [some (.ref 32), some (.int (nI a)), some (.int v), some (.int (nI i))] [] S (fun u S' => u = none ∧ pI S0 S' 1 a 4 (cb v))
  | 0, i, S, h, hp => b_H_putReady_2 (fun _ => b_H_putReady_31 ⟨rfl, by rw [show 4 = i by omega]; exact hp⟩) (fun q => absurd (nI_le (a := 4) (b := i) (by omega) (by omega)) q)
  | j + 1, i, S, h, hp => b_H_putReady_2 (fun q => absurd q (nI_ge (a := i) (b := 4) (by omega) (by omega))) (fun _ => b_H_putReady_7 (by rw [nI_add]; exact vp_in_nI (by omega) (by omega)) (by
      rw [show nI i + Int32.ofInt 1 = nI (i + 1) from nI_add i 1, nI_add, nI_clamp (by omega)]
      exact w_pr ha j (i + 1) _ (by omega) (pI_s hp)))
theorem w_putReady {a : Nat} (ha : a ≤ 16) {v : Int32} : zMv l Gr (zc n w) 168 M_H_putReady d [.ref 32, .int (nI a), .int v] S (fun S' => pI S S' 1 a 4 (cb v)) :=
  e_H_putReady (b_H_putReady_0 (w_pr ha 4 0 S rfl (pI_0 _ _ _ _)))
theorem w_mw {a : Nat} (ha : a ≤ 16) {v : Int32} {S0 : zS} : ∀ (j i : Nat) (S : zS), i + j = 4 → pI S0 S 74 a i (mb v) → zW l Gr (zc n w) 168 M_Mo_word d 2 [some (.ref 105), some (.int (nI a)), some (.int v), some (.int (nI i))] [] S (fun u S' => u = none ∧ pI S0 S' 74 a 4 (mb v))
  | 0, i, S, h, hp => b_Mo_word_2 (fun _ => b_Mo_word_34 ⟨rfl, by rw [show 4 = i by omega]; exact hp⟩) (fun q => absurd (nI_le (a := 4) (b := i) (by omega) (by omega)) q)
  | j + 1, i, S, h, hp => b_Mo_word_2 (fun q => absurd q (nI_ge (a := i) (b := 4) (by omega) (by omega))) (fun _ => b_Mo_word_7 (by rw [nI_add]; exact vp_in_nI (by omega) (by omega)) (by
      rw [show nI i + Int32.ofInt 1 = nI (i + 1) from nI_add i 1, nI_add, nI_clamp (by omega)]
      exact w_mw ha j (i + 1) _ (by omega) (pI_s hp)))
theorem w_word {a : Nat} (ha : a ≤ 16) {v : Int32} : zMv l Gr (zc n w) 168 M_Mo_word d [.ref 105, .int (nI a), .int v] S (fun S' => pI S S' 74 a 4 (mb v)) :=
  e_Mo_word (b_Mo_word_0 (w_mw ha 4 0 S rfl (pI_0 _ _ _ _)))
end RT
def p5 (x1 x2 x3 x4 x5 : Int32) (g : Int32 → Nat → Int32) : Nat → Int32 := fun k => if k < 4 then g x1 k else if k < 8 then g x2 (k - 4) else if k < 12 then g x3 (k - 8) else if k < 16 then g x4 (k - 12) else g x5 (k - 16)
theorem pI_5 {S0 S1 S2 S3 S4 S5 : zS} {r : Nat} {x1 x2 x3 x4 x5 : Int32} {g : Int32 → Nat → Int32} (h1 : pI S0 S1 r 0 4 (g x1)) (h2 : pI S1 S2 r 4 4 (g x2)) (h3 : pI S2 S3 r 8 4 (g x3)) (h4 : pI S3 S4 r 12 4 (g x4)) (h5 : pI S4 S5 r 16 4 (g x5)) : pI S0 S5 r 0 20 (p5 x1 x2 x3 x4 x5 g) := by
  refine ⟨fun c hc => by rw [h5.1 c hc, h4.1 c hc, h3.1 c hc, h2.1 c hc, h1.1 c hc], by rw [h5.2.1, h4.2.1, h3.2.1, h2.2.1, h1.2.1], fun k hk => ?_, fun i hi => ?_⟩
  · rw [h5.2.2.1 k (by omega), h4.2.2.1 k (by omega), h3.2.2.1 k (by omega), h2.2.2.1 k (by omega), h1.2.2.1 k (by omega)]
  · rw [Nat.zero_add]
    unfold p5
    by_cases q1 : i < 4
    · rw [if_pos q1, h5.2.2.1 i (by omega), h4.2.2.1 i (by omega), h3.2.2.1 i (by omega), h2.2.2.1 i (by omega)]
      have := h1.2.2.2 i q1
      rw [Nat.zero_add] at this
      exact this
    · rw [if_neg q1]
      by_cases q2 : i < 8
      · rw [if_pos q2, h5.2.2.1 i (by omega), h4.2.2.1 i (by omega), h3.2.2.1 i (by omega)]
        have := h2.2.2.2 (i - 4) (by omega)
        rw [show 4 + (i - 4) = i by omega] at this
        exact this
      · rw [if_neg q2]
        by_cases q3 : i < 12
        · rw [if_pos q3, h5.2.2.1 i (by omega), h4.2.2.1 i (by omega)]
          have := h3.2.2.2 (i - 8) (by omega)
          rw [show 8 + (i - 8) = i by omega] at this
          exact this
        · rw [if_neg q3]
          by_cases q4 : i < 16
          · rw [if_pos q4, h5.2.2.1 i (by omega)]
            have := h4.2.2.2 (i - 12) (by omega)
            rw [show 12 + (i - 12) = i by omega] at this
            exact this
          · rw [if_neg q4]
            have := h5.2.2.2 (i - 16) (by omega)
            rw [show 16 + (i - 16) = i by omega] at this
            exact this
theorem bt_5 {x1 x2 x3 x4 x5 : Int32} (i : Nat) (hi : i < 20) : bt (p5 x1 x2 x3 x4 x5 cb i) (p5 x1 x2 x3 x4 x5 mb i) := by
  unfold p5
  repeat' split
  all_goals exact bt_cm _ _ (by omega)
section RT2
variable {l : Launch} {Gr : zG} {n w : Nat} {d : Nat} {S : zS}
theorem w_feed (hg : ip_gk (lg_tbl, vwCl, Gr)) {x1 x2 x3 x4 x5 : Int32} : zMv l Gr (zc n w) 168 M_H_feed (d + 1) [.ref 32, .int x1, .int x2, .int x3, .int x4, .int x5] S (fun S' => pI S S' 1 0 20 (p5 x1 x2 x3 x4 x5 cb)) :=
  e_H_feed (b_H_feed_0 hg (w_putReady (a := 0) (by omega)) (fun _ h0 => b_H_feed_6 hg (w_putReady (a := 4) (by omega)) (fun _ h1 => b_H_feed_12 hg (w_putReady (a := 8) (by omega)) (fun _ h2 => b_H_feed_19 hg (w_putReady (a := 12) (by omega)) (fun _ h3 => b_H_feed_27 hg (w_putReady (a := 16) (by omega)) (fun _ h4 => b_H_feed_35 ⟨rfl, pI_5 h0 h1 h2 h3 h4⟩))))))
theorem w_mfeed (hg : ip_gk (lg_tbl, vwCl, Gr)) {x1 x2 x3 x4 x5 : Int32} : zMv l Gr (zc n w) 168 M_Mo_feed (d + 1) [.ref 105, .int x1, .int x2, .int x3, .int x4, .int x5] S (fun S' => pI S S' 74 0 20 (p5 x1 x2 x3 x4 x5 mb)) :=
  e_Mo_feed (b_Mo_feed_0 hg (w_word (a := 0) (by omega)) (fun _ h0 => b_Mo_feed_6 hg (w_word (a := 4) (by omega)) (fun _ h1 => b_Mo_feed_12 hg (w_word (a := 8) (by omega)) (fun _ h2 => b_Mo_feed_19 hg (w_word (a := 12) (by omega)) (fun _ h3 => b_Mo_feed_27 hg (w_word (a := 16) (by omega)) (fun _ h4 => b_Mo_feed_35 ⟨rfl, pI_5 h0 h1 h2 h3 h4⟩))))))
end RT2
