def tx (b : Int32) : Prop := (32 ≤ b ∧ b ≤ 126) ∨ b = 9 ∨ b = 10
theorem bt_tx {x y : Int32} (h : bt x y) : (tx x ↔ tx y) ∧ (tx y → x = y) := by
  obtain ⟨b, hb, rfl, rfl⟩ := h
  by_cases h1 : b < 128
  · have e : (nI b).toInt8.toInt32 = nI b := by
      apply Int32.toInt_inj.mp
      rw [Int8.toInt_toInt32, Int32.toInt_toInt8, nI_toInt (by omega)]
      exact Int.bmod_eq_of_le (by omega) (by omega)
    rw [e]
    exact ⟨Iff.rfl, fun _ => rfl⟩
  · have e : ((nI b).toInt8.toInt32).toInt = (b : Int) - 256 := by
      rw [Int8.toInt_toInt32, Int32.toInt_toInt8, nI_toInt (by omega)]
      have h6 : (b : Int) % ((2 ^ 8 : Nat) : Int) = b := Int.emod_eq_of_lt (by omega) (by show (b : Int) < 256; omega)
      rw [Int.bmod_def, h6, if_neg (by show ¬ (b : Int) < (256 + 1) / 2; omega)]
      rfl
    have n1 : ¬ tx ((nI b).toInt8.toInt32) := by
      intro q
      rcases q with ⟨q, -⟩ | q | q
      · have := Int32.le_iff_toInt_le.mp q
        rw [e, show (32 : Int32).toInt = 32 from rfl] at this
        omega
      · rw [q, show (9 : Int32).toInt = 9 from rfl] at e
        omega
      · rw [q, show (10 : Int32).toInt = 10 from rfl] at e
        omega
    have n2 : ¬ tx (nI b) := by
      intro q
      rcases q with ⟨-, q⟩ | q | q
      · have := Int32.le_iff_toInt_le.mp q
        rw [nI_toInt (by omega), show (126 : Int32).toInt = 126 from rfl] at this
        omega
      · have := congrArg Int32.toInt q
        rw [nI_toInt (by omega), show (9 : Int32).toInt = 9 from rfl] at this
        omega
      · have := congrArg Int32.toInt q
        rw [nI_toInt (by omega), show (10 : Int32).toInt = 10 from rfl] at this
        omega
    exact ⟨⟨fun q => absurd q n1, fun q => absurd q n2⟩, fun q => absurd q n2⟩
theorem bt_fits {x y : Int32} (h : bt x y) : fits .byte (.int x) = true := by
  obtain ⟨b, hb, -, rfl⟩ := h
  show (decide (-128 ≤ (nI b).toInt8.toInt32) && decide ((nI b).toInt8.toInt32 ≤ 127)) = true
  have h1 := Int8.le_toInt (nI b).toInt8
  have h2 := Int8.toInt_lt (nI b).toInt8
  simp only [Bool.and_eq_true, decide_eq_true_eq]
  refine ⟨Int32.le_iff_toInt_le.mpr ?_, Int32.le_iff_toInt_le.mpr ?_⟩
  · rw [Int8.toInt_toInt32, show (-128 : Int32).toInt = -128 from rfl]
    omega
  · rw [Int8.toInt_toInt32, show (127 : Int32).toInt = 127 from rfl]
    omega
section EN
variable {l : Launch} {Gr : zG} {n w : Nat} {d : Nat} {S : zS}
theorem w_isText {b : Int32} : zMi l Gr (zc n w) 168 M_H_isText d [.int b] S (fun v S' => S' = S ∧ ((v = 0 ∧ ¬ tx b) ∨ (v = 1 ∧ tx b))) := by
  have h12 : ¬ (32 ≤ b ∧ b ≤ 126) → zW l Gr (zc n w) 168 M_H_isText d 12 [some (.int b)] [] S (fun v S' => ∃ x, v = some (.int x) ∧ (x = 0 ∨ x = 1) ∧ S' = S ∧ ((x = 0 ∧ ¬ tx b) ∨ (x = 1 ∧ tx b))) := fun hn =>
    b_H_isText_12 (fun q => b_H_isText_24 (b_H_isText_29 ⟨_, rfl, Or.inr rfl, rfl, Or.inr ⟨rfl, Or.inr (Or.inl q)⟩⟩)) (fun q => b_H_isText_18 (fun q2 => b_H_isText_28 (b_H_isText_29 ⟨_, rfl, Or.inl rfl, rfl, Or.inl ⟨rfl, fun z => z.elim hn (fun z => z.elim q q2)⟩⟩)) (fun q2 => b_H_isText_24 (b_H_isText_29 ⟨_, rfl, Or.inr rfl, rfl, Or.inr ⟨rfl, Or.inr (Or.inr q2)⟩⟩)))
  refine e_H_isText (b_H_isText_0 (fun q => h12 (fun z => absurd q (Int32.not_lt.mpr z.1))) (fun q => b_H_isText_6 (fun q2 => b_H_isText_24 (b_H_isText_29 ⟨_, rfl, Or.inr rfl, rfl, Or.inr ⟨rfl, Or.inl ⟨Int32.not_lt.mp q, q2⟩⟩⟩)) (fun q2 => h12 (fun z => q2 z.2))))
theorem we_loop (hg : ip_gk (lg_tbl, vwCl, Gr)) {m : Nat} (hm : m ≤ 20) {Q : Option Value → zS → Prop} (hN : ¬ (∀ k, k < m → tx (S.1 1 k)) → Q (some (.int (-1))) S) (hY : (∀ k, k < m → tx (S.1 1 k)) → zW l Gr (zc n w) 168 M_H_end (d + 1) 51 [some (.ref 32), some (.int (nI m)), none] [] S Q) : ∀ (j i : Nat), i + j = m → (∀ k, k < i → tx (S.1 1 k)) → zW l Gr (zc n w) 168 M_H_end (d + 1) 26 [some (.ref 32), some (.int (nI m)), some (.int (nI i))] [] S Q
  | 0, i, h, hp => b_H_end_26 (fun _ => hY (by rw [show m = i by omega]; exact hp)) (fun q => absurd (nI_le (a := m) (b := i) (by omega) (by omega)) q)
  | j + 1, i, h, hp => b_H_end_26 (fun q => absurd q (nI_ge (a := i) (b := m) (by omega) (by omega))) (fun _ => b_H_end_31 hg (vp_in_nI (by omega) (by omega)) w_isText (fun v S' h2 => by
      obtain ⟨e0, h2⟩ := h2
      rw [e0]
      rw [nI_clamp (by omega)] at h2
      rcases h2 with ⟨rfl, h2⟩ | ⟨rfl, h2⟩
      · exact b_H_end_40 (fun q => absurd rfl q) (fun _ => b_H_end_43 (hN (fun z => h2 (z i (by omega)))))
      · refine b_H_end_40 (fun _ => b_H_end_45 ?_) (fun q => absurd q (by decide))
        rw [show nI i + Int32.ofInt 1 = nI (i + 1) from nI_add i 1]
        exact we_loop hg hm hN hY j (i + 1) (by omega) (fun k hk => by
          by_cases e : k = i
          · subst e; exact h2
          · exact hp k (by omega))))
/-- what end(n) does to ready, tape and taped: r, t the rows, c.k the count -/
def enS (S : zS) (m t : Nat) : zS := zfill (zi (zI S 2 (va_cpy (S.1 1) (S.1 2) 0 t m)) 0 4 (nI (t + m))) 1 0 20
theorem w_end (hg : ip_gk (lg_tbl, vwCl, Gr)) {x1 : Int32} {t : Nat} (ht : t ≤ 4000) (h4 : S.1 0 4 = nI t) (hf : ∀ k, k < 20 → fits .byte (.int (S.1 1 k)) = true) : zMi l Gr (zc n w) 168 M_H_end (d + 1) [.ref 32, .int x1] S (fun v S' => (v = -1 ∧ S' = S ∧ ∀ m : Nat, x1 = nI m → m ≤ 20 → t + m ≤ 4000 → ¬ (∀ k, k < m → tx (S.1 1 k))) ∨ ∃ m : Nat, x1 = nI m ∧ m ≤ 20 ∧ t + m ≤ 4000 ∧ (∀ k, k < m → tx (S.1 1 k)) ∧ v = nI (t + m) ∧ S' = enS S m t) := by
  refine e_H_end (b_H_end_0 (fun q => b_H_end_22 ⟨_, rfl, Or.inl ⟨rfl, rfl, fun m e hm _ => ?_⟩⟩) (fun q => b_H_end_4 (fun q2 => b_H_end_22 ⟨_, rfl, Or.inl ⟨rfl, rfl, fun m e hm _ => ?_⟩⟩) (fun q2 => ?_)))
  · subst e
    exact absurd q (nI_pos (by omega))
  · subst e
    exact absurd q2 (nI_nlt (a := 20) (b := m) hm (by omega))
  · have h20 : x1 ≤ nI 20 := Int32.not_lt.mp q2
    obtain ⟨m, hm, rfl⟩ := nI_of2 (M := nI 20) (n := 20) (nI_toInt (by omega)) q h20
    refine b_H_end_10 (fun q3 => b_H_end_24 ?_) (fun q3 => b_H_end_22 ⟨_, rfl, Or.inl ⟨rfl, rfl, fun m' e hm' h5 => ?_⟩⟩)
    · rw [h4, nI_add] at q3
      have h5 : t + m ≤ 4000 := (nI_leI (a := t + m) (b := 4000) (by omega) (by omega)).mp q3
      refine we_loop hg hm ?no ?yes m 0 (by omega) (fun k hk => absurd hk (Nat.not_lt_zero k))
      case no =>
        intro z
        refine ⟨_, rfl, Or.inl ⟨rfl, rfl, fun m' e hm' _ => ?_⟩⟩
        have : m = m' := (nI_eq (by omega) (by omega)).mp e
        subst this
        exact z
      case yes =>
        intro hall
        refine b_H_end_51 hg ?f1 ?f2 ?f3 ?f4 ?f5 (m_fill_33 0) ?f6
        case f1 =>
          intro i hi
          rw [nI_clamp (by omega)] at hi
          show fits .byte (.int (S.1 1 (0 + i))) = true
          rw [Nat.zero_add]
          exact hf i (by omega)
        case f2 => rw [h4]; exact nI_pos (by omega)
        case f3 => exact nI_pos (by omega)
        case f4 => rw [nI_clamp (by omega)]; show 0 + m ≤ 20; omega
        case f5 => rw [h4, nI_clamp (by omega), nI_clamp (by omega)]; exact h5
        case f6 =>
          intro S' e
          refine b_H_end_86 ⟨_, rfl, Or.inr ⟨m, rfl, hm, h5, hall, ?_, ?_⟩⟩
          · rw [e]
            show S.1 0 4 + nI m = nI (t + m)
            rw [h4, nI_add]
          · rw [e]
            unfold enS
            rw [h4, nI_clamp (by omega), nI_clamp (by omega), nI_add]
            rfl
    · have : m = m' := (nI_eq (by omega) (by omega)).mp e
      subst this
      rw [h4, nI_add] at q3
      exact absurd (nI_le (a := t + m) (b := 4000) h5 (by omega)) q3
end EN
