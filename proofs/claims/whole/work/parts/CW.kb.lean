/-! the class's binary operators but shifts -/
theorem nI_subb (a b : Nat) : nI (a + b) - nI b = nI a := by
  show Int32.ofNat (a + b) - Int32.ofNat b = Int32.ofNat a
  rw [Int32.ofNat_add, Int32.add_sub_cancel]
def PKs (a : Nat) : Nat → Nat → Prop := fun c x => (c = 45 ∧ x = 8) ∨ (51 ≤ c ∧ c ≤ 56) ∨ (c = 57 ∧ a ≤ x)
/-- an operand O of m bits lies at a, the circuit is S's -/
def OPk (S A A' : zS) (a w m : Nat) (O : Nat → Int32) : Prop := KEc S A' ∧ FK (PKs a) A A' ∧ A'.1 45 8 = nI (a + w) ∧ ∀ x, x < m → A'.1 57 (a + x) = O x
section KBI
variable {l : Launch} {Gr : zG} {n w : Nat} {d : Nat} {S A A0 T B : zS} {x y x1 x2 x4 : Int32} {X Y O R : Nat → Int32} {Q : Option Value → zS → Prop} {a b m i o r : Nat}
theorem w_bitsOf : zMi l Gr (zc n w) 168 M_Builder_bitsOf d [.ref 77, .int x1] A (fun v A' => v = (if x1 = 1 then 1 else nI w) ∧ A' = A) := e_Builder_bitsOf (b_Builder_bitsOf_0 (fun z => b_Builder_bitsOf_9 (b_Builder_bitsOf_13 ⟨_, rfl, by rw [if_neg z], rfl⟩)) (fun z => b_Builder_bitsOf_5 (b_Builder_bitsOf_13 ⟨_, rfl, by rw [if_pos z], rfl⟩)))
theorem w_bits (hg : ip_gk (lg_tbl, vwCl, Gr)) (hw : w ≤ 32) (hm : m ≤ w) (hab : a + w ≤ b) (hb : b + w ≤ 9682 * w) (hK : KEc S A) (hG : GK S) (hX : ∀ i, i < m → A.1 57 (a + i) = X i) (hY : ∀ i, i < m → A.1 57 (b + i) = Y i) : zMv l Gr (zc n w) 168 M_Builder_buildBits (d + 4) [.ref 77, .int x1, .int (nI a), .int (nI b), .int (nI m)] A (fun A' => KEc ((bitsP (bkT x1) X Y m 0).1 S).2 A' ∧ FK (fun c i => c = 57 ∧ a ≤ i ∧ i < a + m) A A' ∧ ∀ i, i < m → A'.1 57 (a + i) = lf ((bitsP (bkT x1) X Y m 0).1 S).1 i) :=
  e_Builder_buildBits (b_Builder_buildBits_0 (kb_bits hg hw hm hab hb m 0 S A (by omega) hK hG (fun i _ hi => hX i hi) hY (fun A' e1 e2 e3 => ⟨rfl, e1, FK_mo e2 (fun c i z => by omega), fun i hi => by have := e3 i hi; rw [Nat.add_zero] at this; exact this⟩)))
theorem PKs_a {c x : Nat} (h1 : 51 ≤ c) (h2 : c ≤ 56) : PKs a c x := Or.inr (Or.inl ⟨h1, h2⟩)
theorem PKs_s {x : Nat} (h1 : a ≤ x) : PKs a 57 x := Or.inr (Or.inr ⟨rfl, h1⟩)
theorem kb_end (hw : w ≤ 32) (hK : KEc S A) (hF : FK (PKs a) A0 A) (h8 : A.1 45 8 = nI (a + w)) (hO : ∀ x, x < m → A.1 57 (a + x) = O x) (hQ : ∀ A', OPk S A0 A' a w m O → Q none A') : zW l Gr (zc n w) 168 M_Builder_buildOperator (d + 5) 352 [none, none, none, none, none, none] [] A Q := b_Builder_buildOperator_352 (hQ A ⟨hK, hF, h8, hO⟩)
theorem kb_cmp (hw : w ≤ 32) (hK : KEc S A) (hF : FK (PKs a) A0 A) (h8 : A.1 45 8 = nI (a + w)) (ha : a < 9682 * w) (hQ : ∀ A', OPk S A0 A' a w 1 (b1f x) → Q none A') : zW l Gr (zc n w) 168 M_Builder_buildOperator (d + 5) 352 [none, none, none, none, none, none] [] (zi A 57 ((nI a).toNatClampNeg) x) Q := by
  have hm : 9682 * w ≤ 9682 * 32 := Nat.mul_le_mul_left _ hw
  rw [nI_clamp (by omega)]
  refine kb_end hw (KEc_zi hK (by omega)) (FK_tr (P'' := PKs a) hF (FK_zi (P := PKs a) (PKs_s (Nat.le_refl _))) (fun _ _ z => z) (fun _ _ z => z)) (by rw [zi_c (by decide)]; exact h8) (fun j hj => ?_) hQ
  have : j = 0 := by omega
  subst this
  rw [zi_get, if_pos ⟨rfl, rfl⟩]
  rfl
theorem kb_31 (hg : ip_gk (lg_tbl, vwCl, Gr)) (hw : w ≤ 32) (hw1 : 1 ≤ w) (ho : 1 ≤ o ∧ o ≤ 18 ∧ o ≠ 12 ∧ o ≠ 13) (hm1 : 1 ≤ m) (hmw' : m ≤ w) (hmo : 8 ≤ o → m = w) (ha : a + w + w ≤ 9682 * w) (eK : KEc S A) (hG : GK S) (eF : FK (PKs a) A0 A) (e8 : A.1 45 8 = nI (a + w)) (eX : ∀ j, j < m → A.1 57 (a + j) = X j) (eY : ∀ j, j < m → A.1 57 (a + w + j) = Y j) (cX : ∀ j, CNl (X j)) (cY : ∀ j, CNl (Y j)) (hQ : ∀ A', OPk ((binP w m o X Y).1 S).2 A0 A' a w (bwd o m) ((binP w m o X Y).1 S).1 → Q none A') :
    (nI (37 + o) = 43 → zW l Gr (zc n w) 168 M_Builder_buildOperator (d + 5) 104 [some (.ref 77), none, some (.int (nI (37 + o))), some (.int (nI (a + w))), some (.int (nI a)), some (.int (nI m))] [] A Q) ∧ (nI (37 + o) = 44 → zW l Gr (zc n w) 168 M_Builder_buildOperator (d + 5) 104 [some (.ref 77), none, some (.int (nI (37 + o))), some (.int (nI (a + w))), some (.int (nI a)), some (.int (nI m))] [] A Q) ∧ (nI (37 + o) = 45 → zW l Gr (zc n w) 168 M_Builder_buildOperator (d + 5) 142 [some (.ref 77), none, none, some (.int (nI (a + w))), some (.int (nI a)), none] [] A Q) ∧ (nI (37 + o) = 46 → zW l Gr (zc n w) 168 M_Builder_buildOperator (d + 5) 166 [some (.ref 77), none, none, some (.int (nI (a + w))), some (.int (nI a)), none] [] A Q) ∧ (nI (37 + o) = 47 → zW l Gr (zc n w) 168 M_Builder_buildOperator (d + 5) 192 [some (.ref 77), none, none, some (.int (nI (a + w))), some (.int (nI a)), none] [] A Q) ∧ (nI (37 + o) = 48 → zW l Gr (zc n w) 168 M_Builder_buildOperator (d + 5) 216 [some (.ref 77), none, none, some (.int (nI (a + w))), some (.int (nI a)), none] [] A Q) ∧ (nI (37 + o) = 51 → zW l Gr (zc n w) 168 M_Builder_buildOperator (d + 5) 253 [some (.ref 77), none, none, some (.int (nI (a + w))), some (.int (nI a)), none] [] A Q) ∧ (nI (37 + o) = 52 → zW l Gr (zc n w) 168 M_Builder_buildOperator (d + 5) 280 [some (.ref 77), none, none, some (.int (nI (a + w))), some (.int (nI a)), none] [] A Q) ∧ (nI (37 + o) = 53 → zW l Gr (zc n w) 168 M_Builder_buildOperator (d + 5) 297 [some (.ref 77), none, none, some (.int (nI (a + w))), some (.int (nI a)), none] [] A Q) ∧ (nI (37 + o) = 54 → zW l Gr (zc n w) 168 M_Builder_buildOperator (d + 5) 314 [some (.ref 77), none, some (.int (nI (37 + o))), some (.int (nI (a + w))), some (.int (nI a)), none] [] A Q) ∧ (nI (37 + o) = 55 → zW l Gr (zc n w) 168 M_Builder_buildOperator (d + 5) 314 [some (.ref 77), none, some (.int (nI (37 + o))), some (.int (nI (a + w))), some (.int (nI a)), none] [] A Q) ∧ (o ≤ 5 → zW l Gr (zc n w) 168 M_Builder_buildOperator (d + 5) 342 [some (.ref 77), none, some (.int (nI (37 + o))), some (.int (nI (a + w))), some (.int (nI a)), some (.int (nI m))] [] A Q) := by
  have hmul : 9682 * w ≤ 9682 * 32 := Nat.mul_le_mul_left _ hw
  have gi : ∀ t, t < 100 → nI (37 + o) = nI t → 37 + o = t := fun t ht z => (nI_eq (by omega) (by omega)).mp z
  have ceq : ∀ e : Int32, (nI (37 + o) = 44 → e = 1) → (¬ nI (37 + o) = 44 → e = 0) → (∀ A', OPk ((eqP X Y m).1 S).2 A0 A' a w 1 (b1f (((eqP X Y m).1 S).1 ^^^ e)) → Q none A') → zW l Gr (zc n w) 168 M_Builder_buildOperator (d + 5) 104 [some (.ref 77), none, some (.int (nI (37 + o))), some (.int (nI (a + w))), some (.int (nI a)), some (.int (nI m))] [] A Q := by
    intro e h1 h0 hQ
    refine b_Builder_buildOperator_104 hg (w_equal hg hw hm1 hmw' (by omega) (by omega) eK hG eX eY) (fun v A1 k1 => ?_)
    have f8 : A1.1 45 8 = nI (a + w) := by rw [k1.2.2.1 45 8 (by omega) (by omega) (by omega)]; exact e8
    have fF : FK (PKs a) A0 A1 := FK_tr (P'' := PKs a) eF k1.2.2 (fun _ _ z => z) (fun c i z => PKs_a (by omega) (by omega))
    rw [k1.1]
    refine b_Builder_buildOperator_126 (fun z => b_Builder_buildOperator_136 (b_Builder_buildOperator_137 (vp_in_nI (by omega) (by omega)) (kb_cmp hw k1.2.1 fF f8 (by omega) (by have e0 := h0 z; subst e0; exact hQ)))) (fun z => b_Builder_buildOperator_132 (b_Builder_buildOperator_137 (vp_in_nI (by omega) (by omega)) (kb_cmp hw k1.2.1 fF f8 (by omega) (by have e0 := h1 z; subst e0; exact hQ))))
  have cdiv : m = w → ∀ R : Nat → Int32, (nI (37 + o) = 55 → R = ((divideP X Y w).1 S).1.2) → (¬ nI (37 + o) = 55 → R = ((divideP X Y w).1 S).1.1) → (∀ A', OPk ((divideP X Y w).1 S).2 A0 A' a w w R → Q none A') → zW l Gr (zc n w) 168 M_Builder_buildOperator (d + 5) 314 [some (.ref 77), none, some (.int (nI (37 + o))), some (.int (nI (a + w))), some (.int (nI a)), none] [] A Q := by
    intro em R h1 h0 hQ
    subst em
    have go : ∀ x4 : Int32, (x4 = 0 → R = ((divideP X Y m).1 S).1.1) → (¬ x4 = 0 → R = ((divideP X Y m).1 S).1.2) → zW l Gr (zc n m) 168 M_Builder_buildOperator (d + 5) 336 [none, none, none, none, none, none] [.int x4, .int (nI (a + m)), .int (nI a), .ref 89, .ref 82] A Q := fun x4 g0 g1 => by
      refine b_Builder_buildOperator_336 hg (w_divide hg hw (by omega) (by omega) eK hG eX eY (fun j _ => cX j) (fun j _ => cY j)) (fun A1 k1 => b_Builder_buildOperator_339 (kb_end hw k1.1 (FK_tr (P'' := PKs a) eF k1.2.1 (fun _ _ z => z) (fun c i z => ?_)) ?_ (fun j hj => ?_) hQ))
      · rcases z with z | z
        · exact PKs_a (by omega) (by omega)
        · rw [z.1]
          exact PKs_s (by omega)
      · rw [k1.2.1.1 45 8 (by omega) (by omega) (by omega)]
        exact e8
      · rw [k1.2.2 j hj]
        split
        · rename_i z
          rw [g0 z]
        · rename_i z
          rw [g1 z]
    exact b_Builder_buildOperator_314 (fun z => b_Builder_buildOperator_335 (go 0 (fun _ => h0 z) (fun y => absurd rfl y))) (fun z => b_Builder_buildOperator_331 (go 1 (fun y => absurd y (by decide)) (fun _ => h1 z)))
  refine ⟨fun z => ?_, fun z => ?_, fun z => ?_, fun z => ?_, fun z => ?_, fun z => ?_, fun z => ?_, fun z => ?_, fun z => ?_, fun z => ?_, fun z => ?_, fun h5 => ?_⟩
  · have e : o = 6 := by have := gi 43 (by omega) z; omega
    subst e
    exact ceq 0 (fun z => absurd z (by decide)) (fun _ => rfl) hQ
  · have e : o = 7 := by have := gi 44 (by omega) z; omega
    subst e
    exact ceq 1 (fun _ => rfl) (fun z => absurd rfl z) hQ
  · have e : o = 8 := by have := gi 45 (by omega) z; omega
    subst e
    have em := hmo (by omega)
    subst em
    refine b_Builder_buildOperator_142 hg (w_less (d := d + 1) hg hw (by omega) (by omega) eK hG eX eY) (fun v A1 k1 => ?_)
    have f8 : A1.1 45 8 = nI (a + m) := by rw [k1.2.2.1 45 8 (by omega) (by omega)]; exact e8
    have fF : FK (PKs a) A0 A1 := FK_tr (P'' := PKs a) eF (FK_x (P := PKs a) k1.2.2) (fun _ _ z => z) (fun _ _ z => z)
    rw [k1.1]
    refine b_Builder_buildOperator_162 (vp_in_nI (by omega) (by omega)) (kb_cmp hw k1.2.1 fF f8 (by omega) (by rw [← Int32.xor_zero (a := ((lessP (flp m X) (flp m Y) m 0 (-1)).1 S).1)]; exact hQ))
  · have e : o = 9 := by have := gi 46 (by omega) z; omega
    subst e
    have em := hmo (by omega)
    subst em
    refine b_Builder_buildOperator_166 hg (w_less (d := d + 1) hg hw (by omega) (by omega) eK hG eY eX) (fun v A1 k1 => ?_)
    have f8 : A1.1 45 8 = nI (a + m) := by rw [k1.2.2.1 45 8 (by omega) (by omega)]; exact e8
    have fF : FK (PKs a) A0 A1 := FK_tr (P'' := PKs a) eF (FK_x (P := PKs a) k1.2.2) (fun _ _ z => z) (fun _ _ z => z)
    rw [k1.1]
    refine b_Builder_buildOperator_186 (vp_in_nI (by omega) (by omega)) (kb_cmp hw k1.2.1 fF f8 (by omega) hQ)
  · have e : o = 10 := by have := gi 47 (by omega) z; omega
    subst e
    have em := hmo (by omega)
    subst em
    refine b_Builder_buildOperator_192 hg (w_less (d := d + 1) hg hw (by omega) (by omega) eK hG eY eX) (fun v A1 k1 => ?_)
    have f8 : A1.1 45 8 = nI (a + m) := by rw [k1.2.2.1 45 8 (by omega) (by omega)]; exact e8
    have fF : FK (PKs a) A0 A1 := FK_tr (P'' := PKs a) eF (FK_x (P := PKs a) k1.2.2) (fun _ _ z => z) (fun _ _ z => z)
    rw [k1.1]
    refine b_Builder_buildOperator_212 (vp_in_nI (by omega) (by omega)) (kb_cmp hw k1.2.1 fF f8 (by omega) (by rw [← Int32.xor_zero (a := ((lessP (flp m Y) (flp m X) m 0 (-1)).1 S).1)]; exact hQ))
  · have e : o = 11 := by have := gi 48 (by omega) z; omega
    subst e
    have em := hmo (by omega)
    subst em
    refine b_Builder_buildOperator_216 hg (w_less (d := d + 1) hg hw (by omega) (by omega) eK hG eX eY) (fun v A1 k1 => ?_)
    have f8 : A1.1 45 8 = nI (a + m) := by rw [k1.2.2.1 45 8 (by omega) (by omega)]; exact e8
    have fF : FK (PKs a) A0 A1 := FK_tr (P'' := PKs a) eF (FK_x (P := PKs a) k1.2.2) (fun _ _ z => z) (fun _ _ z => z)
    rw [k1.1]
    refine b_Builder_buildOperator_236 (vp_in_nI (by omega) (by omega)) (kb_cmp hw k1.2.1 fF f8 (by omega) hQ)
  · have e : o = 14 := by have := gi 51 (by omega) z; omega
    subst e
    have em := hmo (by omega)
    subst em
    refine b_Builder_buildOperator_253 hg (w_sum_r89_r89 (d := d + 1) hg hw (by omega) (by omega) (Or.inl (by omega)) eK hG eX eY) (fun A1 k1 => b_Builder_buildOperator_277 (kb_end hw k1.1 (FK_tr (P'' := PKs a) eF k1.2.1 (fun _ _ z => z) (fun c i z => by rw [z.1]; exact PKs_s z.2.1)) ?_ k1.2.2 hQ))
    rw [k1.2.1.1 45 8 (by omega) (by omega) (by omega)]
    exact e8
  · have e : o = 15 := by have := gi 52 (by omega) z; omega
    subst e
    have em := hmo (by omega)
    subst em
    refine b_Builder_buildOperator_280 hg (w_minus hg hw (by omega) (by omega) eK hG eX eY) (fun A1 k1 => b_Builder_buildOperator_294 (kb_end hw k1.1 (FK_tr (P'' := PKs a) eF k1.2.1 (fun _ _ z => z) (fun c i z => by rw [z.1]; exact PKs_s z.2.1)) ?_ k1.2.2 hQ))
    rw [k1.2.1.1 45 8 (by omega) (by omega) (by omega)]
    exact e8
  · have e : o = 16 := by have := gi 53 (by omega) z; omega
    subst e
    have em := hmo (by omega)
    subst em
    refine b_Builder_buildOperator_297 hg (w_times hg hw hw1 (by omega) (by omega) eK hG eX eY (fun j _ => cX j) (fun j _ => cY j)) (fun A1 k1 => b_Builder_buildOperator_311 (kb_end hw k1.1 (FK_tr (P'' := PKs a) eF k1.2.1 (fun _ _ z => z) (fun c i z => ?_)) ?_ k1.2.2 hQ))
    · rcases z with z | z
      · exact PKs_a (by omega) (by omega)
      · rw [z.1]
        exact PKs_s (by omega)
    · rw [k1.2.1.1 45 8 (by omega) (by omega) (by omega)]
      exact e8
  · have e : o = 17 := by have := gi 54 (by omega) z; omega
    subst e
    have em := hmo (by omega)
    subst em
    exact cdiv rfl _ (fun z => absurd z (by decide)) (fun _ => rfl) hQ
  · have e : o = 18 := by have := gi 55 (by omega) z; omega
    subst e
    have em := hmo (by omega)
    subst em
    exact cdiv rfl _ (fun _ => rfl) (fun z => absurd rfl z) hQ
  · refine b_Builder_buildOperator_342 hg (w_bits hg hw hmw' (by omega) (by omega) eK hG eX eY) (fun A1 k1 => kb_end hw k1.1 (FK_tr (P'' := PKs a) eF k1.2.1 (fun _ _ z => z) (fun c i z => by rw [z.1]; exact PKs_s z.2.1)) ?_ k1.2.2 ?_)
    · rw [k1.2.1.1 45 8 (by omega) (by omega) (by omega)]
      exact e8
    · have e : o = 1 ∨ o = 2 ∨ o = 3 ∨ o = 4 ∨ o = 5 := by omega
      rcases e with e | e | e | e | e <;> subst e <;> exact hQ
theorem w_bin (hg : ip_gk (lg_tbl, vwCl, Gr)) (hw : w ≤ 32) (hw1 : 1 ≤ w) (hi : i < 4000) (ho : 1 ≤ o ∧ o ≤ 18 ∧ o ≠ 12 ∧ o ≠ 13) (hr : r ≤ 1) (hm : m = if r = 1 then 1 else w) (hmw : 8 ≤ o → r = 0) (h5 : A.1 5 i = nI r) (h8 : A.1 45 8 = nI (a + w + w)) (ha : a + w + w ≤ 9682 * w) (hK : KEc S A) (hG : GK S) (hX : ∀ j, j < m → A.1 57 (a + j) = X j) (hY : ∀ j, j < m → A.1 57 (a + w + j) = Y j) (cX : ∀ j, CNl (X j)) (cY : ∀ j, CNl (Y j)) : zMv l Gr (zc n w) 168 M_Builder_buildOperator (d + 5) [.ref 77, .int (nI i), .int (nI (37 + o))] A (fun A' => OPk ((binP w m o X Y).1 S).2 A A' a w (bwd o m) ((binP w m o X Y).1 S).1) := by
  have hm1 : 1 ≤ m := by rw [hm]; split <;> omega
  have hmw' : m ≤ w := by rw [hm]; split <;> omega
  have hmo : 8 ≤ o → m = w := fun q => by rw [hm, if_neg (by have := hmw q; omega)]
  refine e_Builder_buildOperator (b_Builder_buildOperator_0 hg (vp_in_nI (by omega) (by omega)) w_bitsOf (fun v A1 k1 => ?_))
  obtain ⟨ev, e1⟩ := k1
  subst e1
  rw [nI_clamp (by omega), h5] at ev
  have ev : v = nI m := by
    rw [ev, hm]
    by_cases z : r = 1
    · rw [if_pos z, if_pos (by rw [z]; rfl)]
      rfl
    · rw [if_neg z, if_neg (show ¬ nI r = 1 from fun y => z ((nI_eq (b := 1) (by omega) (by omega)).mp y))]
  rw [ev, h8, nI_subb, nI_subb]
  obtain ⟨c6, c7, c8, c9, c10, c11, c14, c15, c16, c17, c18, cb⟩ := kb_31 (l := l) (n := n) (d := d) (A := zi A1 45 8 (nI (a + w))) (A0 := A1) (Q := fun v A' => v = none ∧ OPk ((binP w m o X Y).1 S).2 A1 A' a w (bwd o m) ((binP w m o X Y).1 S).1) hg hw hw1 ho hm1 hmw' hmo ha (KEc_zi hK (by omega)) hG (FK_zi (P := PKs a) (Or.inl ⟨rfl, rfl⟩)) (by rw [zi_get, if_pos ⟨rfl, rfl⟩]) (fun j hj => by rw [zi_c (by decide)]; exact hX j hj) (fun j hj => by rw [zi_c (by decide)]; exact hY j hj) cX cY (fun A' h => ⟨rfl, h⟩)
  refine b_Builder_buildOperator_31 c6 c7 c8 c9 c10 c11 (fun z => ?_) (fun z => ?_) c14 c15 c16 c17 c18 (fun z43 z44 z45 z46 z47 z48 _ _ z51 z52 z53 z54 z55 => cb ?_)
  · have := (nI_eq (a := 37 + o) (b := 49) (by omega) (by omega)).mp z
    omega
  · have := (nI_eq (a := 37 + o) (b := 50) (by omega) (by omega)).mp z
    omega
  · have y1 : ¬ o = 6 := fun e => z43 (by rw [e]; rfl)
    have y2 : ¬ o = 7 := fun e => z44 (by rw [e]; rfl)
    have y3 : ¬ o = 8 := fun e => z45 (by rw [e]; rfl)
    have y4 : ¬ o = 9 := fun e => z46 (by rw [e]; rfl)
    have y5 : ¬ o = 10 := fun e => z47 (by rw [e]; rfl)
    have y6 : ¬ o = 11 := fun e => z48 (by rw [e]; rfl)
    have y7 : ¬ o = 14 := fun e => z51 (by rw [e]; rfl)
    have y8 : ¬ o = 15 := fun e => z52 (by rw [e]; rfl)
    have y9 : ¬ o = 16 := fun e => z53 (by rw [e]; rfl)
    have y10 : ¬ o = 17 := fun e => z54 (by rw [e]; rfl)
    have y11 : ¬ o = 18 := fun e => z55 (by rw [e]; rfl)
    clear z43 z44 z45 z46 z47 z48 z51 z52 z53 z54 z55 c6 c7 c8 c9 c10 c11 c14 c15 c16 c17 c18 cb hX hY
    omega
end KBI
