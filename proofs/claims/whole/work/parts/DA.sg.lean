/-! the class's signs and ? : -/
def negP (w : Nat) (X : Nat → Int32) : CP (Nat → Int32) := cBind (sumP (fun _ => -2) (fun j => X j ^^^ 1) w 0 (-1)) fun os => cRet (lf os)
def selP (m : Nat) (c : Int32) (X Y : Nat → Int32) : CP (Nat → Int32) := cBind (muxsP c X Y m 0) fun os => cRet (lf os)
section SGN
variable {l : Launch} {Gr : zG} {n w : Nat} {d : Nat} {S A A0 T B : zS} {c x y x1 x2 x3 x4 : Int32} {X Y O F : Nat → Int32} {Q : Option Value → zS → Prop} {a b m q o i e r v st cf N z h : Nat}
theorem BU_neg : BU (negP w X) := BU_bind (BU_sum _ _ _) (fun _ => BU_ret)
theorem BU_sel : BU (selP m c X Y) := BU_bind (BU_muxs _ _) (fun _ => BU_ret)
theorem W_neg (hX : ∀ j, VC T (X j)) : mWF VFs (negP w X) T := mWF_seq (fun _ => BU_ret) (W_sum _ _ _ T (fun _ => VC_c2) (fun j => VC_f (hX j)) VC_c1) (fun _ _ _ h => mWF_ret h)
theorem W_sel (hc : VC T c) (hX : ∀ j, VC T (X j)) (hY : ∀ j, VC T (Y j)) : mWF VFs (selP m c X Y) T := mWF_seq (fun _ => BU_ret) (W_muxs _ _ T hc hX hY) (fun _ _ _ h => mWF_ret h)
theorem w_sg34 (hg : ip_gk (lg_tbl, vwCl, Gr)) (hw : w ≤ 32) (h8 : A.1 45 8 = nI (a + w)) (ha : a + w ≤ 9682 * w) (hK : KEc S A) (hG : GK S) (hX : ∀ j, j < w → A.1 57 (a + j) = X j) : zMv l Gr (zc n w) 168 M_Builder_buildSign (d + 5) [.ref 77, .int x1, .int 34] A (fun A' => OPk ((negP w X).1 S).2 A A' a w w ((negP w X).1 S).1) := by
  refine e_Builder_buildSign (b_Builder_buildSign_0 (fun _ => ?_) (fun z => absurd z (by decide)) (fun z => absurd z (by decide)) (fun z => absurd rfl z))
  rw [h8, nI_subb]
  refine b_Builder_buildSign_36 hg (w_negate hg hw ha hK hG hX) (fun A1 k1 => b_Builder_buildSign_48 (b_Builder_buildSign_96 ⟨rfl, k1.1, FK_mo k1.2.1 (fun c j z => ?_), ?_, k1.2.2⟩))
  · rcases z with z | z
    · exact PKs_a (by omega) (by omega)
    · rw [z.1]
      exact PKs_s z.2.1
  · rw [k1.2.1.1 45 8 (by omega) (by omega) (by omega)]
    exact h8
theorem w_sg35 (hg : ip_gk (lg_tbl, vwCl, Gr)) (hw : w ≤ 32) (h8 : A.1 45 8 = nI (a + w)) (ha : a + w ≤ 9682 * w) (hK : KEc S A) (hX : ∀ j, j < w → A.1 57 (a + j) = X j) : zMv l Gr (zc n w) 168 M_Builder_buildSign (d + 5) [.ref 77, .int x1, .int 35] A (fun A' => OPk S A A' a w w (fun j => X j ^^^ 1)) := by
  refine e_Builder_buildSign (b_Builder_buildSign_0 (fun z => absurd z (by decide)) (fun _ => ?_) (fun z => absurd z (by decide)) (fun _ z => absurd rfl z))
  rw [h8, nI_subb]
  refine b_Builder_buildSign_51 hg (w_flip hw ha hK hX) (fun A1 k1 => b_Builder_buildSign_63 (b_Builder_buildSign_96 ⟨rfl, k1.1, FK_mo k1.2.1 (fun c j z => ?_), ?_, k1.2.2⟩))
  · rw [z.1]
    exact PKs_s z.2.1
  · rw [k1.2.1.1 45 8 (by omega) (by omega) (by omega)]
    exact h8
theorem w_sg36 (hw : w ≤ 32) (hw1 : 1 ≤ w) (h8 : A.1 45 8 = nI (a + w)) (ha : a + w ≤ 9682 * w) (hK : KEc S A) (hX : A.1 57 a = X 0) : zMv l Gr (zc n w) 168 M_Builder_buildSign (d + 5) [.ref 77, .int x1, .int 36] A (fun A' => OPk S A A' a w 1 (fun j => X j ^^^ 1)) := by
  have hmul : 9682 * w ≤ 9682 * 32 := Nat.mul_le_mul_left _ hw
  refine e_Builder_buildSign (b_Builder_buildSign_0 (fun z => absurd z (by decide)) (fun z => absurd z (by decide)) (fun _ => ?_) (fun _ _ z => absurd rfl z))
  rw [h8, nI_subb]
  refine b_Builder_buildSign_66 (vp_in_nI (by omega) (by omega)) (b_Builder_buildSign_96 ?_)
  rw [nI_clamp (by omega)]
  refine ⟨rfl, KEc_zi hK (by omega), FK_zi (P := PKs a) (PKs_s (Nat.le_refl _)), by rw [zi_c (by decide)]; exact h8, fun j hj => ?_⟩
  have : j = 0 := by omega
  subst this
  rw [zi_get, if_pos ⟨rfl, rfl⟩, hX]
theorem kc_37 (hg : ip_gk (lg_tbl, vwCl, Gr)) (hw : w ≤ 32) (hm : m ≤ w) (ha : a + w + w + w ≤ 9682 * w) : ∀ (k j : Nat) (S A : zS), j + k = m → KEc S A → GK S → (∀ i, i < m → A.1 57 (a + w + i) = X i) → (∀ i, i < m → A.1 57 (a + w + w + i) = Y i) → (∀ A', KEc ((muxsP c X Y k j).1 S).2 A' → FK (fun c i => c = 57 ∧ a + j ≤ i ∧ i < a + m) A A' → (∀ i, i < k → A'.1 57 (a + j + i) = ((muxsP c X Y k j).1 S).1.getD i (-2)) → zW l Gr (zc n w) 168 M_Builder_choose (d + 4) 86 [some (.ref 77), none, none, some (.int (nI (a + w))), none, none, none] [] A' Q) → zW l Gr (zc n w) 168 M_Builder_choose (d + 4) 37 [some (.ref 77), some (.int (nI m)), some (.int (nI (a + w + w))), some (.int (nI (a + w))), some (.int (nI a)), some (.int c), some (.int (nI j))] [] A Q
  | 0, j, S, A, h, hK, hG, hX, hY, hQ => b_Builder_choose_37 (fun _ => hQ A hK FK_rfl (fun j' hj => absurd hj (by omega))) (fun q => absurd (nI_le (a := m) (b := j) (by omega) (by omega)) q)
  | k + 1, j, S, A, h, hK, hG, hX, hY, hQ => by
    have hmul : 9682 * w ≤ 9682 * 32 := Nat.mul_le_mul_left _ hw
    have o1 := k_run (BU_mux (c := c) (x := X j) (y := Y j)) hG
    refine b_Builder_choose_37 (fun q => absurd q (nI_ge (a := j) (b := m) (by omega) (by omega))) (fun _ => b_Builder_choose_43 hg (by rw [nI_add]; exact vp_in_nI (by omega) (by omega)) (by rw [nI_add]; exact vp_in_nI (by omega) (by omega)) (by
      rw [nI_add, nI_add, nI_clamp (by omega), nI_clamp (by omega), hX j (by omega), hY j (by omega)]
      exact w_muxK (d := d) hg hK hG) (fun v A1 h1 => ?_))
    obtain ⟨ev, K1, F1⟩ := h1
    subst ev
    rw [nI_add]
    refine b_Builder_choose_79 (vp_in_nI (by omega) (by omega)) ?_
    rw [nI_clamp (by omega), show nI j + Int32.ofInt 1 = nI (j + 1) from nI_add j 1]
    refine kc_37 hg hw hm ha k (j + 1) _ _ (by omega) (KEc_zi K1 (by omega)) o1.1 (fun j' hj => ?_) (fun j' hj => ?_) (fun A' e1 e2 e3 => hQ A' e1 ?_ (fun j' hj => ?_))
    · rw [zi_get, if_neg (by omega), F1.1 57 _ (by omega) (by omega)]
      exact hX j' hj
    · rw [zi_get, if_neg (by omega), F1.1 57 _ (by omega) (by omega)]
      exact hY j' hj
    · exact FK_tr (FK_x (P := fun _ _ => False) F1) (FK_tr (FK_zi (P := fun c j' => c = 57 ∧ j' = a + j) ⟨rfl, rfl⟩) e2 (P'' := fun c i => c = 57 ∧ a + j ≤ i ∧ i < a + m) (by omega) (by omega)) (fun _ _ z => z.elim) (fun _ _ z => z)
    · cases j' with
      | zero => exact (e2.1 57 (a + j + 0) (by omega) (by omega) (by omega)).trans zi_v
      | succ j' => exact (congrArg (A'.1 57) (by omega)).trans (e3 j' (by omega))
theorem w_sg37 (hg : ip_gk (lg_tbl, vwCl, Gr)) (hw : w ≤ 32) (hw1 : 1 ≤ w) (hi : i < 4000) (hr : r ≤ 1) (hm : m = if r = 1 then 1 else w) (h5 : A.1 5 i = nI r) (h8 : A.1 45 8 = nI (a + w + w + w)) (ha : a + w + w + w ≤ 9682 * w) (hK : KEc S A) (hG : GK S) (hc : A.1 57 a = c) (hX : ∀ j, j < m → A.1 57 (a + w + j) = X j) (hY : ∀ j, j < m → A.1 57 (a + w + w + j) = Y j) : zMv l Gr (zc n w) 168 M_Builder_buildSign (d + 5) [.ref 77, .int (nI i), .int 37] A (fun A' => OPk ((selP m c X Y).1 S).2 A A' a w m ((selP m c X Y).1 S).1) := by
  have hmul : 9682 * w ≤ 9682 * 32 := Nat.mul_le_mul_left _ hw
  have hmw' : m ≤ w := by rw [hm]; split <;> omega
  refine e_Builder_buildSign (b_Builder_buildSign_0 (fun z => absurd z (by decide)) (fun z => absurd z (by decide)) (fun z => absurd z (by decide)) (fun _ _ _ => b_Builder_buildSign_79 hg (vp_in_nI (by omega) (by omega)) w_bitsOf (fun v A1 k1 => ?_)))
  obtain ⟨ev, e1⟩ := k1
  subst e1
  have ev : v = nI m := by
    rw [ev, nI_clamp (by omega), h5, hm]
    by_cases z : r = 1
    · rw [if_pos z, if_pos (by rw [z]; rfl)]
      rfl
    · rw [if_neg z, if_neg (show ¬ nI r = 1 from fun y => z ((nI_eq (b := 1) (by omega) (by omega)).mp y))]
  rw [ev]
  refine b_Builder_buildSign_93 hg (R := fun A' => OPk ((selP m c X Y).1 S).2 A1 A' a w m ((selP m c X Y).1 S).1) (e_Builder_choose (b_Builder_choose_0 ?_ ?_)) (fun A' k => b_Builder_buildSign_96 ⟨rfl, k⟩)
  · rw [h8, nI_subb, nI_subb, nI_subb]
    exact vp_in_nI (by omega) (by omega)
  · rw [h8, nI_subb, nI_subb, nI_subb, nI_clamp (by omega), hc]
    refine kc_37 hg hw hmw' ha m 0 S A1 (by omega) hK hG hX hY (fun A' e1 e2 e3 => b_Builder_choose_86 ⟨rfl, KEc_zi e1 (by omega), ?_, by rw [zi_get, if_pos ⟨rfl, rfl⟩], fun j hj => ?_⟩)
    · exact FK_tr (P'' := PKs a) e2 (FK_zi (P := PKs a) (Or.inl ⟨rfl, rfl⟩)) (fun c j z => by rw [z.1]; exact PKs_s (by omega)) (fun _ _ z => z)
    · rw [zi_c (by decide)]
      have := e3 j hj
      rw [Nat.add_zero] at this
      exact this
end SGN
