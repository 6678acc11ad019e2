/-! the class's flip, minus, negate -/
section FLP
variable {l : Launch} {Gr : zG} {n w : Nat} {d : Nat} {S A : zS} {X Y : Nat → Int32} {Q : Option Value → zS → Prop} {a b : Nat}
theorem ki_flip (hw : w ≤ 32) (ha : a + w ≤ 9682 * w) : ∀ (k j : Nat) (A : zS), j + k = w → KEc S A → (∀ i, i < j → A.1 57 (a + i) = X i ^^^ 1) → (∀ i, j ≤ i → i < w → A.1 57 (a + i) = X i) → (∀ A', KEc S A' → FK (fun c i => c = 57 ∧ a ≤ i ∧ i < a + w) A A' → (∀ i, i < w → A'.1 57 (a + i) = X i ^^^ 1) → Q none A') → zW l Gr (zc n w) 168 M_Logic_flip d 2 [some (.ref 82), some (.ref 89), some (.int (nI a)), some (.int (nI j))] [] A Q
  | 0, j, A, h, hK, h1, h2, hQ => b_Logic_flip_r89_2 (fun _ => b_Logic_flip_r89_25 (hQ A hK FK_rfl (fun i hi => h1 i (by omega)))) (fun q => absurd (nI_le (a := w) (b := j) (by omega) (by omega)) q)
  | k + 1, j, A, h, hK, h1, h2, hQ => by
    refine b_Logic_flip_r89_2 (fun q => absurd q (nI_ge (a := j) (b := w) (by omega) (by omega))) (fun _ => b_Logic_flip_r89_10 (by rw [nI_add]; exact vp_in_nI (by omega) (by omega)) ?_)
    rw [nI_add, nI_clamp (by omega), h2 j (by omega) (by omega), show nI j + Int32.ofInt 1 = nI (j + 1) from nI_add j 1]
    refine ki_flip hw ha k (j + 1) _ (by omega) (KEc_zi hK (by omega)) (fun i hi => ?_) (fun i q1 q2 => ?_) (fun A' e1 e2 e3 => hQ A' e1 (FK_tr (FK_zi (P := fun c i => c = 57 ∧ a ≤ i ∧ i < a + w) ⟨rfl, by omega, by omega⟩) e2 (fun _ _ z => z) (fun _ _ z => z)) e3)
    · rw [zi_get]
      by_cases z : i = j
      · rw [if_pos ⟨rfl, by omega⟩, z]
      · rw [if_neg (by omega)]
        exact h1 i (by omega)
    · rw [zi_get, if_neg (by omega)]
      exact h2 i (by omega) q2
theorem w_flip (hw : w ≤ 32) (ha : a + w ≤ 9682 * w) (hK : KEc S A) (hX : ∀ j, j < w → A.1 57 (a + j) = X j) : zMv l Gr (zc n w) 168 M_Logic_flip d [.ref 82, .ref 89, .int (nI a)] A (fun A' => KEc S A' ∧ FK (fun c i => c = 57 ∧ a ≤ i ∧ i < a + w) A A' ∧ ∀ i, i < w → A'.1 57 (a + i) = X i ^^^ 1) := e_Logic_flip_r89 (b_Logic_flip_r89_0 (ki_flip hw ha w 0 A (by omega) hK (fun _ h => absurd h (by omega)) (fun i _ hi => hX i hi) (fun A' e1 e2 e3 => ⟨rfl, e1, e2, e3⟩)))
theorem w_minus (hg : ip_gk (lg_tbl, vwCl, Gr)) (hw : w ≤ 32) (hab : a + w ≤ b) (hb : b + w ≤ 9682 * w) (hK : KEc S A) (hG : GK S) (hX : ∀ j, j < w → A.1 57 (a + j) = X j) (hY : ∀ j, j < w → A.1 57 (b + j) = Y j) : zMv l Gr (zc n w) 168 M_Logic_minus (d + 4) [.ref 82, .ref 89, .int (nI a), .int (nI b)] A (fun A' => KEc ((sumP X (fun j => Y j ^^^ 1) w 0 (-1)).1 S).2 A' ∧ FK (fun c i => c = 57 ∧ a ≤ i ∧ i < b + w) A A' ∧ ∀ j, j < w → A'.1 57 (a + j) = ((sumP X (fun j => Y j ^^^ 1) w 0 (-1)).1 S).1.getD j (-2)) := by
  refine e_Logic_minus_r89 (b_Logic_minus_r89_0 hg (w_flip hw hb hK hY) (fun A1 h1 => ?_))
  refine b_Logic_minus_r89_6 hg (w_sum_r89_r89 (d := d) (X := X) (Y := fun j => Y j ^^^ 1) hg hw (by omega) hb (Or.inl hab) h1.1 hG (fun j hj => ?_) h1.2.2) (fun A2 h2 => b_Logic_minus_r89_19 ⟨rfl, h2.1, FK_tr h1.2.1 h2.2.1 (by omega) (by omega), h2.2.2⟩)
  rw [h1.2.1.1 57 (a + j) (by omega) (by omega) (by omega)]
  exact hX j hj
theorem fl_83 (hw : w ≤ 32) (v : Int32) {Q : Option Value → zS → Prop} (k : Q none (zfill S 51 v w)) : ∀ (j i : Nat), i + j = w → zW l Gr (zc n w) 168 M_Arrays_fill_78e d 5 [some (.ref 83), some (.int v), some (.int (nI i)), some (.int (nI w))] [] (zfill S 51 v i) Q
  | 0, i, h => b_Arrays_fill_78e_r83_5 (fun _ => b_Arrays_fill_78e_r83_20 (by rw [show i = w by omega]; exact k)) (fun q => absurd (nI_le (a := w) (b := i) (by omega) (by omega)) q)
  | j + 1, i, h => b_Arrays_fill_78e_r83_5 (fun q => absurd q (nI_ge (a := i) (b := w) (by omega) (by omega))) (fun _ => b_Arrays_fill_78e_r83_10 (vp_in_nI (by omega) (by omega)) (by
      rw [nI_clamp (by omega), zfill_s, show nI i + Int32.ofInt 1 = nI (i + 1) from nI_add i 1]
      exact fl_83 hw v k j (i + 1) (by omega)))
theorem m_fill_83 (hw : w ≤ 32) (v : Int32) : zMv l Gr (zc n w) 168 M_Arrays_fill_78e d [.ref 83, .int v] S (fun S' => S' = zfill S 51 v w) :=
  e_Arrays_fill_78e_r83 (b_Arrays_fill_78e_r83_0 (by
    have := fl_83 (l := l) (Gr := Gr) (n := n) (w := w) (d := d) (S := S) hw v (Q := fun v' S' => v' = none ∧ S' = zfill S 51 v w) ⟨rfl, rfl⟩ w 0 (by omega)
    rw [zfill_0] at this
    exact this))
theorem w_negate (hg : ip_gk (lg_tbl, vwCl, Gr)) (hw : w ≤ 32) (ha : a + w ≤ 9682 * w) (hK : KEc S A) (hG : GK S) (hX : ∀ j, j < w → A.1 57 (a + j) = X j) : zMv l Gr (zc n w) 168 M_Logic_negate (d + 4) [.ref 82, .ref 89, .int (nI a)] A (fun A' => KEc ((sumP (fun _ => -2) (fun j => X j ^^^ 1) w 0 (-1)).1 S).2 A' ∧ FK (fun c i => (c = 51 ∧ i < w) ∨ (c = 57 ∧ a ≤ i ∧ i < a + w)) A A' ∧ ∀ j, j < w → A'.1 57 (a + j) = ((sumP (fun _ => -2) (fun j => X j ^^^ 1) w 0 (-1)).1 S).1.getD j (-2)) := by
  have cw : (nI w).toNatClampNeg = w := nI_clamp (by omega)
  have ca : (nI a).toNatClampNeg = a := nI_clamp (by omega)
  refine e_Logic_negate_r89 (b_Logic_negate_r89_0 hg (w_flip hw ha hK hX) (fun A1 h1 => ?_))
  refine b_Logic_negate_r89_6 hg (m_fill_83 hw (-2)) (fun A2 e2 => ?_)
  subst e2
  have K2 : KEc S (zfill A1 51 (-2) w) := KEc_zI h1.1 (by omega)
  have F2 : FK (fun c j => c = 51 ∧ j < w) A1 (zfill A1 51 (-2) w) := FK_zI (fun j hj => by rw [if_neg (by omega)])
  refine b_Logic_negate_r89_15 hg (w_sum_r83_r89 (a := 0) (b := a) (m := w) (d := d) (X := fun _ => -2) (Y := fun j => X j ^^^ 1) hg hw (by omega) ha K2 hG (fun j hj => ?_) (fun j hj => ?_)) (fun A3 h3 => b_Logic_negate_r89_31 (nI_pos (by omega)) (nI_pos (by omega)) (by rw [cw]; exact Nat.le_of_eq (Nat.zero_add w)) (by rw [cw, ca]; exact ha) ?_)
  · rw [Nat.zero_add]
    show (if 51 = 51 then (fun k => if k < w then (-2 : Int32) else A1.1 51 k) else A1.1 51) j = -2
    rw [if_pos rfl]
    simp only [if_pos hj]
  · rw [F2.1 57 (a + j) (by omega) (by omega) (by omega)]
    exact h1.2.2 j hj
  · rw [cw, ca, show (0 : Int32).toNatClampNeg = 0 from rfl]
    obtain ⟨g1, g2, g3⟩ := cp57 (w := w) (a := a) (c0 := 51) (O := fun j => ((sumP (fun _ => -2) (fun j => X j ^^^ 1) w 0 (-1)).1 S).1.getD j (-2)) h3.1 (fun j hj => by
      have := h3.2.2 j hj
      rw [Nat.zero_add] at this
      exact this)
    exact ⟨rfl, g1, FK_tr h1.2.1 (FK_tr F2 (FK_tr h3.2.1 g2 (P'' := fun c i => (c = 51 ∧ i < w) ∨ (c = 57 ∧ a ≤ i ∧ i < a + w)) (by omega) (by omega)) (P'' := fun c i => (c = 51 ∧ i < w) ∨ (c = 57 ∧ a ≤ i ∧ i < a + w)) (by omega) (fun _ _ z => z)) (by omega) (fun _ _ z => z), g3⟩
end FLP
