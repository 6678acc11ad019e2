/-- cells of the reference are as they were -/
def zfr (S S' : zS) : Prop := ∀ c, 73 ≤ c → S'.1 c = S.1 c ∧ S'.2 c = S.2 c
theorem zfr_rfl {S : zS} : zfr S S := fun _ _ => ⟨rfl, rfl⟩
theorem zfr_tr {S T U : zS} (h : zfr S T) (k : zfr T U) : zfr S U := fun c hc => ⟨(k c hc).1.trans (h c hc).1, (k c hc).2.trans (h c hc).2⟩
theorem zfr_I {S T : zS} (h : zfr S T) {c : Nat} (hc : c < 73) (f : Nat → Int32) : zfr S (zI T c f) := fun q hq => ⟨by
  show (if q = c then f else T.1 q) = _
  rw [if_neg (by omega)]
  exact (h q hq).1, (h q hq).2⟩
theorem zfr_i {S T : zS} (h : zfr S T) {c : Nat} (hc : c < 73) (k : Nat) (v : Int32) : zfr S (zi T c k v) := zfr_I h hc _
theorem zfr_j {S T : zS} (h : zfr S T) {c : Nat} (hc : c < 73) (k : Nat) (v : Int64) : zfr S (zj T c k v) := fun q hq => ⟨(h q hq).1, by
  show (if q = c then _ else T.2 q) = _
  rw [if_neg (by omega)]
  exact (h q hq).2⟩
def zfill (S : zS) (c : Nat) (v : Int32) (i : Nat) : zS := zI S c (fun k => if k < i then v else S.1 c k)
theorem zfill_0 (S : zS) (c : Nat) (v : Int32) : zfill S c v 0 = S := by
  unfold zfill zI
  refine Prod.ext ?_ rfl
  funext q
  by_cases h : q = c
  · subst h; simp
  · simp [h]
theorem zfill_s (S : zS) (c : Nat) (v : Int32) (i : Nat) : zi (zfill S c v i) c i v = zfill S c v (i + 1) := by
  unfold zfill zi zI upd
  refine Prod.ext ?_ rfl
  funext q
  by_cases h : q = c
  · subst h
    funext k
    simp only [if_pos]
    by_cases h1 : k = i
    · subst h1; simp
    · by_cases h2 : k < i
      · simp [h1, h2, Nat.lt_succ_of_lt h2]
      · simp [h1, h2, show ¬ k < i + 1 by omega]
  · simp [h]
section P1H
variable {l : Launch} {Gr : zG} {n w : Nat} {d : Nat} {S : zS}
theorem fl_33 (v : Int32) {Q : Option Value → zS → Prop} (k : Q none (zfill S 1 v.toInt8.toInt32 20)) : ∀ (j i : Nat), i + j = 20 → zW l Gr (zc n w) 168 M_Arrays_fill_52d d 5 [some (.ref 33), some (.int v), some (.int (nI i)), some (.int 20)] [] (zfill S 1 v.toInt8.toInt32 i) Q
  | 0, i, h => b_Arrays_fill_52d_r33_5 (fun _ => b_Arrays_fill_52d_r33_20 (by rw [show i = 20 by omega]; exact k)) (fun q => absurd (nI_le (a := 20) (b := i) (by omega) (by omega)) q)
  | j + 1, i, h => b_Arrays_fill_52d_r33_5 (fun q => absurd q (nI_ge (a := i) (b := 20) (by omega) (by omega))) (fun _ => b_Arrays_fill_52d_r33_10 (vp_in_nI (by omega) (by omega)) (by
      rw [nI_clamp (by omega), zfill_s, show nI i + Int32.ofInt 1 = nI (i + 1) from nI_add i 1]
      exact fl_33 v k j (i + 1) (by omega)))
theorem m_fill_33 (v : Int32) : zMv l Gr (zc n w) 168 M_Arrays_fill_52d d [.ref 33, .int v] S (fun S' => S' = zfill S 1 v.toInt8.toInt32 20) :=
  e_Arrays_fill_52d_r33 (b_Arrays_fill_52d_r33_0 (by
    have := fl_33 (l := l) (Gr := Gr) (n := n) (w := w) (d := d) (S := S) v (Q := fun v' S' => v' = none ∧ S' = zfill S 1 v.toInt8.toInt32 20) ⟨rfl, rfl⟩ 20 0 rfl
    rw [zfill_0] at this
    exact this))
theorem fl_55 (hb : n ≤ 100000) (v : Int32) {Q : Option Value → zS → Prop} (k : Q none (zfill S 23 v n)) : ∀ (j i : Nat), i + j = n → zW l Gr (zc n w) 168 M_Arrays_fill_78e d 5 [some (.ref 55), some (.int v), some (.int (nI i)), some (.int (nI n))] [] (zfill S 23 v i) Q
  | 0, i, h => b_Arrays_fill_78e_r55_5 (fun _ => b_Arrays_fill_78e_r55_20 (by rw [show i = n by omega]; exact k)) (fun q => absurd (nI_le (a := n) (b := i) (by omega) (by omega)) q)
  | j + 1, i, h => b_Arrays_fill_78e_r55_5 (fun q => absurd q (nI_ge (a := i) (b := n) (by omega) (by omega))) (fun _ => b_Arrays_fill_78e_r55_10 (vp_in_nI (by omega) (by omega)) (by
      rw [nI_clamp (by omega), zfill_s, show nI i + Int32.ofInt 1 = nI (i + 1) from nI_add i 1]
      exact fl_55 hb v k j (i + 1) (by omega)))
theorem m_fill_55 (hb : n ≤ 100000) (v : Int32) : zMv l Gr (zc n w) 168 M_Arrays_fill_78e d [.ref 55, .int v] S (fun S' => S' = zfill S 23 v n) :=
  e_Arrays_fill_78e_r55 (b_Arrays_fill_78e_r55_0 (by
    have := fl_55 (l := l) (Gr := Gr) (n := n) (w := w) (d := d) (S := S) hb v (Q := fun v' S' => v' = none ∧ S' = zfill S 23 v n) ⟨rfl, rfl⟩ n 0 (by omega)
    rw [zfill_0] at this
    exact this))
theorem fl_62 (v : Int32) {Q : Option Value → zS → Prop} (k : Q none (zfill S 30 v 2003)) : ∀ (j i : Nat), i + j = 2003 → zW l Gr (zc n w) 168 M_Arrays_fill_78e d 5 [some (.ref 62), some (.int v), some (.int (nI i)), some (.int 2003)] [] (zfill S 30 v i) Q
  | 0, i, h => b_Arrays_fill_78e_r62_5 (fun _ => b_Arrays_fill_78e_r62_20 (by rw [show i = 2003 by omega]; exact k)) (fun q => absurd (nI_le (a := 2003) (b := i) (by omega) (by omega)) q)
  | j + 1, i, h => b_Arrays_fill_78e_r62_5 (fun q => absurd q (nI_ge (a := i) (b := 2003) (by omega) (by omega))) (fun _ => b_Arrays_fill_78e_r62_10 (vp_in_nI (by omega) (by omega)) (by
      rw [nI_clamp (by omega), zfill_s, show nI i + Int32.ofInt 1 = nI (i + 1) from nI_add i 1]
      exact fl_62 v k j (i + 1) (by omega)))
theorem m_fill_62 (v : Int32) : zMv l Gr (zc n w) 168 M_Arrays_fill_78e d [.ref 62, .int v] S (fun S' => S' = zfill S 30 v 2003) :=
  e_Arrays_fill_78e_r62 (b_Arrays_fill_78e_r62_0 (by
    have := fl_62 (l := l) (Gr := Gr) (n := n) (w := w) (d := d) (S := S) v (Q := fun v' S' => v' = none ∧ S' = zfill S 30 v 2003) ⟨rfl, rfl⟩ 2003 0 (by omega)
    rw [zfill_0] at this
    exact this))
theorem fl_90 (hb : (256 * w) ≤ 100000) (v : Int32) {Q : Option Value → zS → Prop} (k : Q none (zfill S 58 v (256 * w))) : ∀ (j i : Nat), i + j = (256 * w) → zW l Gr (zc n w) 168 M_Arrays_fill_78e d 5 [some (.ref 90), some (.int v), some (.int (nI i)), some (.int (nI (256 * w)))] [] (zfill S 58 v i) Q
  | 0, i, h => b_Arrays_fill_78e_r90_5 (fun _ => b_Arrays_fill_78e_r90_20 (by rw [show i = (256 * w) by omega]; exact k)) (fun q => absurd (nI_le (a := (256 * w)) (b := i) (by omega) (by omega)) q)
  | j + 1, i, h => b_Arrays_fill_78e_r90_5 (fun q => absurd q (nI_ge (a := i) (b := (256 * w)) (by omega) (by omega))) (fun _ => b_Arrays_fill_78e_r90_10 (vp_in_nI (by omega) (by omega)) (by
      rw [nI_clamp (by omega), zfill_s, show nI i + Int32.ofInt 1 = nI (i + 1) from nI_add i 1]
      exact fl_90 hb v k j (i + 1) (by omega)))
theorem m_fill_90 (hb : (256 * w) ≤ 100000) (v : Int32) : zMv l Gr (zc n w) 168 M_Arrays_fill_78e d [.ref 90, .int v] S (fun S' => S' = zfill S 58 v (256 * w)) :=
  e_Arrays_fill_78e_r90 (b_Arrays_fill_78e_r90_0 (by
    have := fl_90 (l := l) (Gr := Gr) (n := n) (w := w) (d := d) (S := S) hb v (Q := fun v' S' => v' = none ∧ S' = zfill S 58 v (256 * w)) ⟨rfl, rfl⟩ (256 * w) 0 (by omega)
    rw [zfill_0] at this
    exact this))
theorem pr_loop {a : Nat} (ha : a ≤ 16) {v : Int32} {S0 : zS} : ∀ (j i : Nat) (S : zS), i + j = 4 → zfr S0 S → zW l Gr (zc n w) 168 M_H_putReady d 2 [some (.ref 32), some (.int (nI a)), some (.int v), some (.int (nI i))] [] S (fun u S' => u = none ∧ zfr S0 S')
  | 0, i, S, h, hf => b_H_putReady_2 (fun _ => b_H_putReady_31 ⟨rfl, hf⟩) (fun q => absurd (nI_le (a := 4) (b := i) (by omega) (by omega)) q)
  | j + 1, i, S, h, hf => b_H_putReady_2 (fun q => absurd q (nI_ge (a := i) (b := 4) (by omega) (by omega))) (fun _ => b_H_putReady_7 (by rw [nI_add]; exact vp_in_nI (by omega) (by omega)) (by
      rw [show nI i + Int32.ofInt 1 = nI (i + 1) from nI_add i 1]
      exact pr_loop ha j (i + 1) _ (by omega) (zfr_i hf (by omega) _ _)))
theorem p_putReady {a : Nat} (ha : a ≤ 16) {v : Int32} : zMv l Gr (zc n w) 168 M_H_putReady d [.ref 32, .int (nI a), .int v] S (fun S' => zfr S S') :=
  e_H_putReady (b_H_putReady_0 (pr_loop ha 4 0 S rfl zfr_rfl))
theorem p_feed (hg : ip_gk (lg_tbl, vwCl, Gr)) {x1 x2 x3 x4 x5 : Int32} : zMv l Gr (zc n w) 168 M_H_feed (d + 1) [.ref 32, .int x1, .int x2, .int x3, .int x4, .int x5] S (fun S' => zfr S S') :=
  e_H_feed (b_H_feed_0 hg (p_putReady (a := 0) (by omega)) (fun _ h0 => b_H_feed_6 hg (p_putReady (a := 4) (by omega)) (fun _ h1 => b_H_feed_12 hg (p_putReady (a := 8) (by omega)) (fun _ h2 => b_H_feed_19 hg (p_putReady (a := 12) (by omega)) (fun _ h3 => b_H_feed_27 hg (p_putReady (a := 16) (by omega)) (fun _ h4 => b_H_feed_35 ⟨rfl, zfr_tr h0 (zfr_tr h1 (zfr_tr h2 (zfr_tr h3 h4)))⟩))))))
def p_en (x : Int32) : Int32 := if x = 0 then 0 else -1
theorem p_isText0 : zMi l Gr (zc n w) 168 M_H_isText d [.int 0] S (fun v S' => v = 0 ∧ S' = S) :=
  e_H_isText (b_H_isText_0 (fun _ => b_H_isText_12 (fun q => absurd q (by decide)) (fun _ => b_H_isText_18 (fun _ => b_H_isText_28 (b_H_isText_29 ⟨_, rfl, Or.inl rfl, rfl, rfl⟩)) (fun q => absurd q (by decide)))) (fun q => absurd (by decide) q))
theorem p_end (hg : ip_gk (lg_tbl, vwCl, Gr)) {x1 : Int32} : zMi l Gr (zc n w) 168 M_H_end (d + 1) [.ref 32, .int x1] z0 (fun v S' => v = p_en x1 ∧ zfr z0 S') := by
  refine e_H_end (b_H_end_0 (fun q => b_H_end_22 ⟨_, rfl, ?_, zfr_rfl⟩) (fun q => b_H_end_4 (fun q2 => b_H_end_22 ⟨_, rfl, ?_, zfr_rfl⟩) (fun q2 => ?_)))
  · unfold p_en
    rw [if_neg]
    intro e
    subst e
    exact absurd q (by decide)
  · unfold p_en
    rw [if_neg]
    intro e
    subst e
    exact absurd q2 (by decide)
  · have h20 : x1 ≤ nI 20 := Int32.not_lt.mp q2
    obtain ⟨m, hm, rfl⟩ := nI_of2 (M := nI 20) (n := 20) (nI_toInt (by omega)) q h20
    refine b_H_end_10 (fun _ => b_H_end_24 (b_H_end_26 (fun q3 => ?_) (fun q3 => ?_))) (fun q3 => absurd ?_ q3)
    · have hm0 : m = 0 := by
        have : nI m ≤ nI 0 := q3
        have := (nI_leI (by omega) (by omega)).mp this
        omega
      subst hm0
      refine b_H_end_51 hg (fun i hi => ?_) (by decide) (by decide) (by decide) (by decide) (m_fill_33 0) (fun S' h => ?_)
      · rw [nI_clamp (by omega)] at hi
        omega
      · subst h
        exact b_H_end_86 ⟨_, rfl, rfl, zfr_I (zfr_i (zfr_I zfr_rfl (by omega) _) (by omega) _ _) (by omega) _⟩
    · have hm0 : ¬ m = 0 := fun e => by
        subst e
        exact q3 (by decide)
      refine b_H_end_31 hg (by unfold vp_in; decide) p_isText0 (fun v S' h => ?_)
      obtain ⟨rfl, rfl⟩ := h
      refine b_H_end_40 (fun q => absurd rfl q) (fun _ => b_H_end_43 ⟨_, rfl, ?_, zfr_rfl⟩)
      unfold p_en
      rw [if_neg]
      intro e
      exact nI_ne0 (by omega) (by omega) e
    · show (0 : Int32) + nI m ≤ nI 4000
      rw [Int32.zero_add]
      exact nI_le (by omega) (by omega)
theorem p_seed {x1 : Int32} : zMv l Gr (zc n w) 168 M_H_seed d [.ref 32, .int x1] S (fun S' => zfr S S') := e_H_seed (b_H_seed_0 ⟨rfl, zfr_i zfr_rfl (by omega) _ _⟩)
theorem p_gate {x1 x2 : Int32} : zMi l Gr (zc n w) 168 M_H_gate d [.ref 32, .int x1, .int x2] z0 (fun v S' => v = -1 ∧ S' = z0) := e_H_gate (b_H_gate_0 (fun _ => b_H_gate_22 ⟨_, rfl, rfl, rfl⟩) (fun q => absurd rfl q))
theorem p_hasOutput {x1 : Int32} : zMi l Gr (zc n w) 168 M_H_hasOutput d [.ref 32, .int x1] z0 (fun v S' => v = 0 ∧ S' = z0) := e_H_hasOutput (b_H_hasOutput_0 (fun _ => b_H_hasOutput_26 (b_H_hasOutput_27 ⟨_, rfl, Or.inl rfl, rfl, rfl⟩)) (fun q => absurd rfl q))
theorem p_isFlying {x1 : Int32} : zMi l Gr (zc n w) 168 M_H_isFlying d [.ref 32, .int x1] z0 (fun v S' => v = 0 ∧ S' = z0) := e_H_isFlying (b_H_isFlying_0 (fun _ => b_H_isFlying_26 (b_H_isFlying_27 ⟨_, rfl, Or.inl rfl, rfl, rfl⟩)) (fun q => absurd rfl q))
theorem p_isAtWork {x1 : Int32} : zMi l Gr (zc n w) 168 M_H_isAtWork d [.ref 32, .int x1] z0 (fun v S' => v = 0 ∧ S' = z0) := e_H_isAtWork (b_H_isAtWork_0 (fun _ => b_H_isAtWork_23 (b_H_isAtWork_24 ⟨_, rfl, Or.inl rfl, rfl, rfl⟩)) (fun q => absurd rfl q))
theorem p_literal (hg : ip_gk (lg_tbl, vwCl, Gr)) {x1 x2 : Int32} : zMi l Gr (zc n w) 168 M_H_literal (d + 1) [.ref 32, .int x1, .int x2] z0 (fun v S' => v = -3 ∧ S' = z0) := e_H_literal (b_H_literal_0 hg p_hasOutput (fun v S' h => by
  obtain ⟨rfl, rfl⟩ := h
  exact b_H_literal_5 (fun _ => b_H_literal_24 ⟨_, rfl, rfl, rfl⟩) (fun q => absurd rfl q)))
theorem p_input {x1 x2 : Int32} : zMl l Gr (zc n w) 168 M_H_input d [.ref 32, .int x1, .int x2] z0 (fun v S' => v = -1 ∧ S' = z0) := e_H_input (b_H_input_0 (fun _ => b_H_input_15 ⟨_, rfl, rfl, rfl⟩) (fun q => b_H_input_4 (fun q2 => absurd q2 q) (fun _ => b_H_input_15 ⟨_, rfl, rfl, rfl⟩)))
theorem p_give {x1 x2 : Int32} : zMi l Gr (zc n w) 168 M_H_give d [.ref 32, .int x1, .int x2] z0 (fun v S' => v = 0 ∧ S' = z0) := e_H_give (b_H_give_0 (fun _ => b_H_give_15 ⟨_, rfl, Or.inl rfl, rfl, rfl⟩) (fun q => b_H_give_4 (fun q2 => absurd q2 q) (fun _ => b_H_give_15 ⟨_, rfl, Or.inl rfl, rfl, rfl⟩)))
theorem p_deal : zMi l Gr (zc n w) 168 M_H_deal (d + 1) [.ref 32] z0 (fun v S' => v = 0 ∧ S' = z0) := e_H_deal (b_H_deal_0 (fun q => absurd rfl q) (fun _ => b_H_deal_7 ⟨_, rfl, Or.inl rfl, rfl, rfl⟩))
theorem p_deliver (hg : ip_gk (lg_tbl, vwCl, Gr)) {x1 : Int32} : zMi l Gr (zc n w) 168 M_H_deliver (d + 1) [.ref 32, .int x1] z0 (fun v S' => v = -1 ∧ S' = z0) := e_H_deliver (b_H_deliver_0 hg p_isFlying (fun v S' h => by
  obtain ⟨rfl, rfl⟩ := h
  exact b_H_deliver_5 (fun _ => b_H_deliver_19 (b_H_deliver_20 ⟨_, rfl, rfl, rfl⟩)) (fun q => absurd rfl q)))
theorem p_message (hg : ip_gk (lg_tbl, vwCl, Gr)) {x1 x2 : Int32} : zMi l Gr (zc n w) 168 M_H_message (d + 1) [.ref 32, .int x1, .int x2] z0 (fun v S' => v = -1 ∧ S' = z0) := e_H_message (b_H_message_0 hg p_isFlying (fun v S' h => by
  obtain ⟨rfl, rfl⟩ := h
  exact b_H_message_5 (fun q => absurd rfl q) (fun _ => b_H_message_8 ⟨_, rfl, rfl, rfl⟩)))
theorem p_party (hg : ip_gk (lg_tbl, vwCl, Gr)) {x1 x2 : Int32} : zMi l Gr (zc n w) 168 M_H_party (d + 1) [.ref 32, .int x1, .int x2] z0 (fun v S' => v = -1 ∧ S' = z0) := e_H_party (b_H_party_0 hg p_isAtWork (fun v S' h => by
  obtain ⟨rfl, rfl⟩ := h
  exact b_H_party_5 (fun q => absurd rfl q) (fun _ => b_H_party_8 ⟨_, rfl, rfl, rfl⟩)))
theorem p_dealt (hg : ip_gk (lg_tbl, vwCl, Gr)) {x1 x2 x3 : Int32} : zMi l Gr (zc n w) 168 M_H_dealt (d + 1) [.ref 32, .int x1, .int x2, .int x3] z0 (fun v S' => v = -1 ∧ S' = z0) := e_H_dealt (b_H_dealt_0 hg p_isAtWork (fun v S' h => by
  obtain ⟨rfl, rfl⟩ := h
  exact b_H_dealt_5 (fun _ => b_H_dealt_45 ⟨_, rfl, rfl, rfl⟩) (fun q => absurd rfl q)))
theorem p_share (hg : ip_gk (lg_tbl, vwCl, Gr)) {x1 x2 : Int32} : zMi l Gr (zc n w) 168 M_H_share (d + 1) [.ref 32, .int x1, .int x2] z0 (fun v S' => v = -1 ∧ S' = z0) := e_H_share (b_H_share_0 hg p_isAtWork (fun v S' h => by
  obtain ⟨rfl, rfl⟩ := h
  exact b_H_share_5 (fun _ => b_H_share_45 ⟨_, rfl, rfl, rfl⟩) (fun q => absurd rfl q)))
theorem p_view (hg : ip_gk (lg_tbl, vwCl, Gr)) {x1 x2 : Int32} : zMi l Gr (zc n w) 168 M_H_view (d + 1) [.ref 32, .int x1, .int x2] z0 (fun v S' => v = -1 ∧ S' = z0) := e_H_view (b_H_view_0 hg p_isAtWork (fun v S' h => by
  obtain ⟨rfl, rfl⟩ := h
  exact b_H_view_5 (fun _ => b_H_view_36 (b_H_view_37 ⟨_, rfl, rfl, rfl⟩)) (fun q => absurd rfl q)))
theorem p_told (hg : ip_gk (lg_tbl, vwCl, Gr)) {x1 x2 : Int32} : zMl l Gr (zc n w) 168 M_H_told (d + 1) [.ref 32, .int x1, .int x2] z0 (fun v S' => v = -1 ∧ S' = z0) := e_H_told (b_H_told_0 hg p_isAtWork (fun v S' h => by
  obtain ⟨rfl, rfl⟩ := h
  exact b_H_told_5 (fun _ => b_H_told_27 ⟨_, rfl, rfl, rfl⟩) (fun q => absurd rfl q)))
theorem p_truth (hg : ip_gk (lg_tbl, vwCl, Gr)) {x1 : Int32} : zMl l Gr (zc n w) 168 M_H_truth (d + 1) [.ref 32, .int x1] z0 (fun v S' => v = -1 ∧ S' = z0) := e_H_truth (b_H_truth_0 hg p_hasOutput (fun v S' h => by
  obtain ⟨rfl, rfl⟩ := h
  exact b_H_truth_5 (fun q => absurd rfl q) (fun _ => b_H_truth_8 ⟨_, rfl, rfl, rfl⟩)))
def p_rs (x1 x2 : Int32) : Int32 := if x1 < 0 then -1 else if x2 < 0 then -1 else if x1 ≤ 100000 then 0 else -1
theorem p_rush {x1 x2 : Int32} : zMi l Gr (zc n w) 168 M_H_rush (d + 1) [.ref 32, .int x1, .int x2] z0 (fun v S' => v = p_rs x1 x2 ∧ S' = z0) :=
  e_H_rush (b_H_rush_0 (fun q => b_H_rush_15 ⟨_, rfl, by simp [p_rs, q], rfl⟩) (fun q => b_H_rush_4 (fun q2 => b_H_rush_15 ⟨_, rfl, by simp [p_rs, q, q2], rfl⟩) (fun q2 => b_H_rush_8 (fun q3 => b_H_rush_17 (b_H_rush_19 (fun _ => b_H_rush_64 ⟨_, rfl, by simp [p_rs, q, q2, q3], rfl⟩) (fun _ => b_H_rush_24 (fun _ => b_H_rush_64 ⟨_, rfl, by simp [p_rs, q, q2, q3], rfl⟩) (fun z => absurd rfl z)))) (fun q3 => b_H_rush_15 ⟨_, rfl, by simp [p_rs, q, q2, q3], rfl⟩))))
def p_lk (x : Int32) : Int32 := if x = 9 then 0 else if x = 10 then 0 else if x = 11 then 0 else if x = 12 then 0 else if x = 13 then 0 else if x = 14 then 1 else -1
theorem p_lk_mid {x : Int32} (h1 : ¬ x < 1) (h2 : ¬ 8 < x) : p_lk x = -1 := by
  unfold p_lk
  repeat' split
  all_goals first | rfl | (next e => subst e; exact absurd (by decide) h2)
theorem p_look {x1 : Int32} : zMi l Gr (zc n w) 168 M_H_look (d + 1) [.ref 32, .int x1] z0 (fun v S' => v = p_lk x1 ∧ S' = z0) := by
  have h28 : zW l Gr (zc n w) 168 M_H_look (d + 1) 28 [some (.ref 32), some (.int x1)] [] z0 (fun v S' => ∃ x, v = some (.int x) ∧ x = p_lk x1 ∧ S' = z0) :=
    b_H_look_28 (fun q => by subst q; exact b_H_look_104 ⟨_, rfl, rfl, rfl⟩) (fun q => by subst q; exact b_H_look_112 (fun _ => b_H_look_129 (b_H_look_130 ⟨_, rfl, rfl, rfl⟩)) (fun z => absurd rfl z))
      (fun q => by subst q; exact b_H_look_131 (fun _ => b_H_look_148 (b_H_look_149 ⟨_, rfl, rfl, rfl⟩)) (fun z => absurd rfl z)) (fun q => by subst q; exact b_H_look_150 (fun _ => b_H_look_167 (b_H_look_168 ⟨_, rfl, rfl, rfl⟩)) (fun z => absurd rfl z))
      (fun q => by subst q; exact b_H_look_169 (fun _ => b_H_look_180 (fun _ => b_H_look_191 (b_H_look_192 ⟨_, rfl, rfl, rfl⟩)) (fun z => absurd rfl z)) (fun z => absurd rfl z))
      (fun q => by subst q; exact b_H_look_193 ⟨_, rfl, rfl, rfl⟩) (fun q => by subst q; exact b_H_look_201 ⟨_, rfl, rfl, rfl⟩)
      (fun q0 q1 q2 q3 q4 q5 q6 => b_H_look_209 ⟨_, rfl, by simp [p_lk, q1, q2, q3, q4, q5, q6], rfl⟩)
  exact e_H_look (b_H_look_0 (fun _ => h28) (fun q => b_H_look_5 (fun _ => h28) (fun q2 => b_H_look_11 (fun _ => b_H_look_26 (b_H_look_27 ⟨_, rfl, (p_lk_mid q q2).symm, rfl⟩)) (fun z => absurd rfl z))))
def p_dr (x : Int32) : Int32 := if x < 0 then -1 else if 64 < x then -1 else x
theorem p_keep_loop {m : Nat} (hm : m ≤ 64) {b : Int64} : ∀ (j i : Nat) (S : zS), i + j = m → S.1 59 2 = nI i → zfr z0 S → zW l Gr (zc n w) 168 M_Dealer_keep d 3 [some (.ref 91), some (.long b), none, some (.int (nI m)), some (.int (nI i))] [] S (fun v S' => ∃ x, v = some (.int x) ∧ x = nI m ∧ zfr z0 S')
  | 0, i, S, h, hw, hf => b_Dealer_keep_3 (fun _ => b_Dealer_keep_52 ⟨_, rfl, by rw [hw, show i = m by omega], hf⟩) (fun q => absurd (nI_le (by omega) (by omega)) q)
  | j + 1, i, S, h, hw, hf => b_Dealer_keep_3 (fun q => absurd q (nI_ge (by omega) (by omega))) (fun _ => b_Dealer_keep_9 (fun q => absurd q (by rw [hw]; exact nI_ge (a := i) (b := 2000) (by omega) (by omega))) (fun _ => b_Dealer_keep_19 (by rw [hw]; exact vp_in_nI (by omega) (by omega)) (by
      rw [show nI i + Int32.ofInt 1 = nI (i + 1) from nI_add i 1]
      refine p_keep_loop hm j (i + 1) _ (by omega) ?_ (zfr_i (zfr_i hf (by omega) _ _) (by omega) _ _)
      rw [zi_get, if_pos ⟨rfl, rfl⟩, hw]
      exact nI_1 i)))
theorem p_draws (hg : ip_gk (lg_tbl, vwCl, Gr)) {x1 : Int64} {x3 : Int32} : zMi l Gr (zc n w) 168 M_H_draws (d + 1) [.ref 32, .long x1, .int x3] z0 (fun v S' => v = p_dr x3 ∧ zfr z0 S') := by
  refine e_H_draws (b_H_draws_0 (fun q => b_H_draws_25 ⟨_, rfl, by simp [p_dr, q], zfr_rfl⟩) (fun q => b_H_draws_4 (fun q2 => b_H_draws_25 ⟨_, rfl, by simp [p_dr, q2], zfr_rfl⟩) (fun q2 => ?_)))
  have e0 : p_dr x3 = x3 := by simp [p_dr, q, q2]
  have h64 : x3 ≤ nI 64 := Int32.not_lt.mp q2
  obtain ⟨m, hm, rfl⟩ := nI_of2 (M := nI 64) (n := 64) (nI_toInt (by omega)) q h64
  refine b_H_draws_10 (fun _ => b_H_draws_27 hg (e_Dealer_keep (b_Dealer_keep_0 (p_keep_loop hm m 0 z0 (by omega) rfl zfr_rfl))) (fun v S' h => b_H_draws_36 ⟨_, rfl, h.1.trans e0.symm, h.2⟩)) (fun q3 => absurd ?_ q3)
  show (0 : Int32) + nI m ≤ nI 2000
  rw [Int32.zero_add]
  exact nI_le (by omega) (by omega)
end P1H
