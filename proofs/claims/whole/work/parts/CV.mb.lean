/-! the reference's binary operators -/
def bwd (o m : Nat) : Nat := if 6 ≤ o ∧ o ≤ 11 then 1 else m
def PU (q : Nat) : Nat → Nat → Prop := fun c i => (c = 73 ∧ i = 85) ∨ ((123 ≤ c ∧ c ≤ 130) ∧ i < 40) ∨ (c = 122 ∧ 32 * q ≤ i ∧ i < 32 * q + 32)
section MBI
variable {l : Launch} {Gr : zG} {n w : Nat} {d : Nat} {S A T B B0 : zS} {x y x1 x2 x4 : Int32} {X Y O R : Nat → Int32} {Q : Option Value → zS → Prop} {a b m q o : Nat}
theorem mb_610 (hg : ip_gk (lg_tbl, vwCl, Gr)) (hm : m ≤ 32) (hq : q < 4200) (hK : MEc T B) (h85 : B.1 73 85 = nI q) (hO : ∀ i, i < m → B.1 125 i = O i) (hF : FM (PU q) B0 B) (hQ : ∀ B', OPd T B0 B' q m O → Q none B') : zW l Gr (zc n w) 168 M_Mo_binary (d + 5) 610 [some (.ref 105), none, none, none, some (.int (nI m)), none, none, none] [] B Q :=
  b_Mo_binary_610 hg (wm_pushZ hm hq hK h85 hO) (fun B4 h4 => b_Mo_binary_616 (hQ B4 ⟨h4.1, FM_tr (P'' := PU q) hF h4.2.1 (fun _ _ z => z) (fun c i z => by unfold PU; omega), h4.2.2.1, h4.2.2.2⟩))
theorem mb_508 (hw : w ≤ 32) : ∀ (k j : Nat) (B : zS), j + k = w → MEc T B → (∀ i, i < j → B.1 124 i = Y i ^^^ 1) → (∀ i, j ≤ i → i < w → B.1 124 i = Y i) → (∀ B', MEc T B' → FM (fun c i => c = 124 ∧ i < 40) B B' → (∀ i, i < w → B'.1 124 i = Y i ^^^ 1) → zW l Gr (zc n w) 168 M_Mo_binary (d + 5) 539 [some (.ref 105), none, none, none, some (.int x4), none, none, none] [] B' Q) → zW l Gr (zc n w) 168 M_Mo_binary (d + 5) 508 [some (.ref 105), none, none, none, some (.int x4), some (.int (nI j)), none, none] [] B Q
  | 0, j, B, h, hK, h1, h2, hQ => b_Mo_binary_508 (fun _ => hQ B hK FM_rfl (fun i hi => h1 i (by omega))) (fun z => absurd (nI_le (a := w) (b := j) (by omega) (by omega)) z)
  | k + 1, j, B, h, hK, h1, h2, hQ => by
    refine b_Mo_binary_508 (fun z => absurd z (nI_ge (a := j) (b := w) (by omega) (by omega))) (fun _ => b_Mo_binary_517 (vp_in_nI (by omega) (by omega)) ?_)
    rw [nI_clamp (by omega), h2 j (by omega) (by omega), show nI j + Int32.ofInt 1 = nI (j + 1) from nI_add j 1]
    refine mb_508 hw k (j + 1) _ (by omega) (MEc_zi hK (by omega)) (fun i hi => ?_) (fun i q1 q2 => ?_) (fun B' e1 e2 e3 => hQ B' e1 (FM_tr (FM_zi (P := fun c i => c = 124 ∧ i < 40) ⟨rfl, by omega⟩) e2 (fun _ _ z => z) (fun _ _ z => z)) e3)
    · rw [zi_get]
      by_cases z : i = j
      · rw [if_pos ⟨rfl, z⟩, z]
      · rw [if_neg (by omega)]
        exact h1 i (by omega)
    · rw [zi_get, if_neg (by omega)]
      exact h2 i (by omega) q2
theorem mb_565 (hw : w ≤ 32) : ∀ (k j : Nat) (B : zS), j + k = w → MEc T B → (x2 = 17 → ∀ i, i < w → B.1 130 i = R i) → (¬ x2 = 17 → ∀ i, i < w → B.1 129 i = R i) → (∀ i, i < j → B.1 125 i = R i) → (∀ B', MEc T B' → FM (fun c i => c = 125 ∧ i < 40) B B' → (∀ i, i < w → B'.1 125 i = R i) → zW l Gr (zc n w) 168 M_Mo_binary (d + 5) 610 [some (.ref 105), none, none, none, some (.int x4), none, none, none] [] B' Q) → zW l Gr (zc n w) 168 M_Mo_binary (d + 5) 565 [some (.ref 105), none, some (.int x2), none, some (.int x4), some (.int (nI j)), none, none] [] B Q
  | 0, j, B, h, hK, h1, h2, h3, hQ => b_Mo_binary_565 (fun _ => hQ B hK FM_rfl (fun i hi => h3 i (by omega))) (fun z => absurd (nI_le (a := w) (b := j) (by omega) (by omega)) z)
  | k + 1, j, B, h, hK, h1, h2, h3, hQ => by
    have go : zW l Gr (zc n w) 168 M_Mo_binary (d + 5) 565 [some (.ref 105), none, some (.int x2), none, some (.int x4), some (.int (nI (j + 1))), none, none] [] (zi B 125 j (R j)) Q := by
      refine mb_565 hw k (j + 1) _ (by omega) (MEc_zi hK (by omega)) (fun z i hi => ?_) (fun z i hi => ?_) (fun i hi => ?_) (fun B' e1 e2 e3 => hQ B' e1 (FM_tr (FM_zi (P := fun c i => c = 125 ∧ i < 40) ⟨rfl, by omega⟩) e2 (fun _ _ z => z) (fun _ _ z => z)) e3)
      · rw [zi_c (by decide)]
        exact h1 z i hi
      · rw [zi_c (by decide)]
        exact h2 z i hi
      · rw [zi_get]
        by_cases z : i = j
        · rw [if_pos ⟨rfl, z⟩, z]
        · rw [if_neg (by omega)]
          exact h3 i (by omega)
    refine b_Mo_binary_565 (fun z => absurd z (nI_ge (a := j) (b := w) (by omega) (by omega))) (fun _ => b_Mo_binary_574 (fun z => b_Mo_binary_596 (vp_in_nI (by omega) (by omega)) (b_Mo_binary_603 (vp_in_nI (by omega) (by omega)) ?_)) (fun z => b_Mo_binary_586 (vp_in_nI (by omega) (by omega)) (b_Mo_binary_603 (vp_in_nI (by omega) (by omega)) ?_)))
    · rw [nI_clamp (by omega), h2 z j (by omega), show nI j + Int32.ofInt 1 = nI (j + 1) from nI_add j 1]
      exact go
    · rw [nI_clamp (by omega), h1 z j (by omega), show nI j + Int32.ofInt 1 = nI (j + 1) from nI_add j 1]
      exact go
theorem mb_cmp (hg : ip_gk (lg_tbl, vwCl, Gr)) (hq : q < 4200) (hK : MEc T B) (h85 : B.1 73 85 = nI q) (hF : FM (PU q) B0 B) (hQ : ∀ B', OPd T B0 B' q 1 (b1f (x ^^^ y)) → Q none B') : zW l Gr (zc n w) 168 M_Mo_binary (d + 5) 610 [some (.ref 105), none, none, none, some (.int 1), none, none, none] [] (zi B 125 ((0 : Int32).toNatClampNeg) (x ^^^ y)) Q := by
  refine mb_610 (m := 1) hg (by omega) hq (MEc_zi hK (by omega)) (by rw [zi_c (by decide)]; exact h85) (fun i hi => ?_) (FM_tr (P'' := PU q) hF (FM_zi (P := PU q) (Or.inr (Or.inl ⟨by omega, by decide⟩))) (fun _ _ z => z) (fun _ _ z => z)) hQ
  have : i = 0 := by omega
  subst this
  rw [show ((0 : Int32).toNatClampNeg) = 0 from rfl, zi_get, if_pos ⟨rfl, rfl⟩]
  rfl
theorem PU_a {c i : Nat} (h1 : 123 ≤ c) (h2 : c ≤ 130) (h3 : i < 40) : PU q c i := Or.inr (Or.inl ⟨⟨h1, h2⟩, h3⟩)
theorem mb_186 (hg : ip_gk (lg_tbl, vwCl, Gr)) (hw : w ≤ 32) (hw1 : 1 ≤ w) (hm1 : 1 ≤ m) (hm : m ≤ 32) (hq : q < 4200) (ho : 1 ≤ o ∧ o ≤ 18 ∧ o ≠ 12 ∧ o ≠ 13) (hmw : 8 ≤ o → m = w) (hK : MEc T B) (hW : MW T) (h85 : B.1 73 85 = nI q) (vX : ∀ j, VC T (X j)) (vY : ∀ j, VC T (Y j)) (hX : ∀ i, i < m → B.1 123 i = X i) (hY : ∀ i, i < m → B.1 124 i = Y i) (hF : FM (PU q) B0 B) (hQ : ∀ B', OPd ((binP w m o X Y).2 T).2 B0 B' q (bwd o m) ((binP w m o X Y).2 T).1 → Q none B') : zW l Gr (zc n w) 168 M_Mo_binary (d + 5) 186 [some (.ref 105), none, some (.int (nI o)), some (.int (nI m)), none, none, none, none] [] B Q := by
  have cor : (∀ B', OPd ((bitsP 2 X Y m 0).2 T).2 B0 B' q m (lf ((bitsP 2 X Y m 0).2 T).1) → Q none B') → zW l Gr (zc n w) 168 M_Mo_binary (d + 5) 268 [some (.ref 105), none, none, some (.int (nI m)), some (.int (nI m)), none, none, none] [] B Q := fun hQ => b_Mo_binary_268 (mb_or hg hm m 0 T B (by omega) hK hW vX vY hX hY (fun B' e1 e2 e3 => b_Mo_binary_314 (mb_610 hg hm hq e1 (by rw [e2.1 73 85 (by omega) (by omega) (by omega)]; exact h85) (fun i hi => by have := e3 i hi; rw [Nat.zero_add] at this; exact this) (FM_tr (P'' := PU q) hF e2 (fun _ _ z => z) (fun c i z => PU_a (by omega) (by omega) (by omega))) hQ)))
  have cand : (∀ B', OPd ((bitsP 1 X Y m 0).2 T).2 B0 B' q m (lf ((bitsP 1 X Y m 0).2 T).1) → Q none B') → zW l Gr (zc n w) 168 M_Mo_binary (d + 5) 317 [some (.ref 105), none, none, some (.int (nI m)), some (.int (nI m)), none, none, none] [] B Q := fun hQ => b_Mo_binary_317 (mb_and hg hm m 0 T B (by omega) hK hW vX vY hX hY (fun B' e1 e2 e3 => b_Mo_binary_357 (mb_610 hg hm hq e1 (by rw [e2.1 73 85 (by omega) (by omega) (by omega)]; exact h85) (fun i hi => by have := e3 i hi; rw [Nat.zero_add] at this; exact this) (FM_tr (P'' := PU q) hF e2 (fun _ _ z => z) (fun c i z => PU_a (by omega) (by omega) (by omega))) hQ)))
  have ceq : ∀ e : Int32, (nI o = 7 → e = 1) → (¬ nI o = 7 → e = 0) → (∀ B', OPd ((eqP X Y m).2 T).2 B0 B' q 1 (b1f (((eqP X Y m).2 T).1 ^^^ e)) → Q none B') → zW l Gr (zc n w) 168 M_Mo_binary (d + 5) 403 [some (.ref 105), none, some (.int (nI o)), some (.int (nI m)), none, none, none, none] [] B Q := by
    intro e h1 h0 hQ
    refine b_Mo_binary_403 hg (wm_equal (d := d + 1) hg hm1 (by omega) hK hW vX vY hX hY) (fun v B1 k1 => ?_)
    have f85 : B1.1 73 85 = nI q := by rw [k1.2.2.1 73 85 (by omega) (by omega) (by omega)]; exact h85
    have fF : FM (PU q) B0 B1 := FM_tr (P'' := PU q) hF k1.2.2 (fun _ _ z => z) (fun c i z => PU_a (by omega) (by omega) (by omega))
    rw [k1.1]
    refine b_Mo_binary_413 (fun z => b_Mo_binary_423 (b_Mo_binary_424 (vp_in_nI (n := 0) (by omega) (by omega)) (mb_cmp hg hq k1.2.1 f85 fF (by have e0 := h0 z; subst e0; exact hQ)))) (fun z => b_Mo_binary_419 (b_Mo_binary_424 (vp_in_nI (n := 0) (by omega) (by omega)) (mb_cmp hg hq k1.2.1 f85 fF (by have e0 := h1 z; subst e0; exact hQ))))
  have cls : m = w → ∀ e : Int32, (nI o = 11 → e = 1) → (¬ nI o = 11 → e = 0) → (∀ B', OPd ((lessP (flp w X) (flp w Y) w 0 (-1)).2 T).2 B0 B' q 1 (b1f (((lessP (flp w X) (flp w Y) w 0 (-1)).2 T).1 ^^^ e)) → Q none B') → zW l Gr (zc n w) 168 M_Mo_binary (d + 5) 432 [some (.ref 105), none, some (.int (nI o)), none, none, none, none, none] [] B Q := by
    intro em e h1 h0 hQ
    subst em
    refine b_Mo_binary_432 hg (wm_less (d := d + 1) hg hw hw1 hK hW vX vY hX hY) (fun v B1 k1 => ?_)
    have f85 : B1.1 73 85 = nI q := by rw [k1.2.2.1 73 85 (by omega) (by omega) (by omega)]; exact h85
    have fF : FM (PU q) B0 B1 := FM_tr (P'' := PU q) hF k1.2.2 (fun _ _ z => z) (fun c i z => PU_a (by omega) (by omega) (by omega))
    rw [k1.1]
    refine b_Mo_binary_441 (fun z => b_Mo_binary_451 (b_Mo_binary_452 (vp_in_nI (n := 0) (by omega) (by omega)) (mb_cmp hg hq k1.2.1 f85 fF (by have e0 := h0 z; subst e0; exact hQ)))) (fun z => b_Mo_binary_447 (b_Mo_binary_452 (vp_in_nI (n := 0) (by omega) (by omega)) (mb_cmp hg hq k1.2.1 f85 fF (by have e0 := h1 z; subst e0; exact hQ))))
  have cgt : m = w → ∀ e : Int32, (nI o = 9 → e = 1) → (¬ nI o = 9 → e = 0) → (∀ B', OPd ((lessP (flp w Y) (flp w X) w 0 (-1)).2 T).2 B0 B' q 1 (b1f (((lessP (flp w Y) (flp w X) w 0 (-1)).2 T).1 ^^^ e)) → Q none B') → zW l Gr (zc n w) 168 M_Mo_binary (d + 5) 460 [some (.ref 105), none, some (.int (nI o)), none, none, none, none, none] [] B Q := by
    intro em e h1 h0 hQ
    subst em
    refine b_Mo_binary_460 hg (wm_swap hw hK hX hY) (fun B2 k2 => ?_)
    refine b_Mo_binary_464 hg (wm_less (d := d + 1) hg hw hw1 k2.1 hW vY vX (fun j hj => (k2.2.2 j hj).1) (fun j hj => (k2.2.2 j hj).2)) (fun v B1 k1 => ?_)
    have f85 : B1.1 73 85 = nI q := by
      rw [k1.2.2.1 73 85 (by omega) (by omega) (by omega), k2.2.1.1 73 85 (by omega) (by omega) (by omega)]
      exact h85
    have fF : FM (PU q) B0 B1 := FM_tr (P'' := PU q) (FM_tr (P'' := PU q) hF k2.2.1 (fun _ _ z => z) (fun c i z => PU_a (by omega) (by omega) (by omega))) k1.2.2 (fun _ _ z => z) (fun c i z => PU_a (by omega) (by omega) (by omega))
    rw [k1.1]
    refine b_Mo_binary_473 (fun z => b_Mo_binary_483 (b_Mo_binary_484 (vp_in_nI (n := 0) (by omega) (by omega)) (mb_cmp hg hq k1.2.1 f85 fF (by have e0 := h0 z; subst e0; exact hQ)))) (fun z => b_Mo_binary_479 (b_Mo_binary_484 (vp_in_nI (n := 0) (by omega) (by omega)) (mb_cmp hg hq k1.2.1 f85 fF (by have e0 := h1 z; subst e0; exact hQ))))
  refine b_Mo_binary_186 (fun z => ?_) (fun z => ?_) (fun z => ?_) (fun z => ?_) (fun z => ?_) (fun z => ?_) (fun z => ?_) (fun z => ?_) (fun z => ?_) (fun z => ?_) (fun z => ?_) (fun z => ?_) (fun z => ?_) (fun z => ?_) (fun z1 z2 z3 z4 z5 z6 z7 z8 z9 z10 z11 z14 z15 z16 => ?_)
  · have e : o = 1 := (nI_eq (b := 1) (by omega) (by omega)).mp z
    subst e
    exact cor hQ
  · have e : o = 2 := (nI_eq (b := 2) (by omega) (by omega)).mp z
    subst e
    exact cand hQ
  · have e : o = 3 := (nI_eq (b := 3) (by omega) (by omega)).mp z
    subst e
    exact cor hQ
  · have e : o = 4 := (nI_eq (b := 4) (by omega) (by omega)).mp z
    subst e
    exact b_Mo_binary_360 (mb_xor hg hm m 0 T B (by omega) hK hW vX vY hX hY (fun B' e1 e2 e3 => b_Mo_binary_400 (mb_610 hg hm hq e1 (by rw [e2.1 73 85 (by omega) (by omega) (by omega)]; exact h85) (fun i hi => by have := e3 i hi; rw [Nat.zero_add] at this; exact this) (FM_tr (P'' := PU q) hF e2 (fun _ _ z => z) (fun c i z => PU_a (by omega) (by omega) (by omega))) hQ)))
  · have e : o = 5 := (nI_eq (b := 5) (by omega) (by omega)).mp z
    subst e
    exact cand hQ
  · have e : o = 6 := (nI_eq (b := 6) (by omega) (by omega)).mp z
    subst e
    exact ceq 0 (fun z => absurd z (by decide)) (fun _ => rfl) hQ
  · have e : o = 7 := (nI_eq (b := 7) (by omega) (by omega)).mp z
    subst e
    exact ceq 1 (fun _ => rfl) (fun z => absurd rfl z) hQ
  · have e : o = 8 := (nI_eq (b := 8) (by omega) (by omega)).mp z
    subst e
    exact cls (hmw (by omega)) 0 (fun z => absurd z (by decide)) (fun _ => rfl) hQ
  · have e : o = 9 := (nI_eq (b := 9) (by omega) (by omega)).mp z
    subst e
    exact cgt (hmw (by omega)) 1 (fun _ => rfl) (fun z => absurd rfl z) hQ
  · have e : o = 10 := (nI_eq (b := 10) (by omega) (by omega)).mp z
    subst e
    exact cgt (hmw (by omega)) 0 (fun z => absurd z (by decide)) (fun _ => rfl) hQ
  · have e : o = 11 := (nI_eq (b := 11) (by omega) (by omega)).mp z
    subst e
    exact cls (hmw (by omega)) 1 (fun _ => rfl) (fun z => absurd rfl z) hQ
  · have e : o = 14 := (nI_eq (b := 14) (by omega) (by omega)).mp z
    subst e
    have em := hmw (by omega)
    subst em
    refine b_Mo_binary_492 hg (wm_sum (d := d + 1) (m := m) hg (by omega) hK hW VC_c2 vX vY hX hY) (fun B1 k1 => b_Mo_binary_502 (mb_610 hg hm hq k1.1 ?_ k1.2.2 ?_ hQ))
    · rw [k1.2.1.1 73 85 (by omega) (by omega) (by omega)]
      exact h85
    · exact FM_tr (P'' := PU q) hF k1.2.1 (fun _ _ z => z) (fun c i z => PU_a (by omega) (by omega) (by omega))
  · have e : o = 15 := (nI_eq (b := 15) (by omega) (by omega)).mp z
    subst e
    have em := hmw (by omega)
    subst em
    refine b_Mo_binary_505 (mb_508 (Y := Y) hw m 0 B (by omega) hK (fun i hi => absurd hi (by omega)) (fun i _ hi => hY i hi) (fun B2 e1 e2 e3 => ?_))
    refine b_Mo_binary_539 hg (wm_sum (d := d + 1) (m := m) (X := X) hg (by omega) e1 hW VC_c1 vX (fun j => VC_f (vY j)) (fun j hj => by rw [e2.1 123 j (by omega) (by omega) (by omega)]; exact hX j hj) e3) (fun B1 k1 => b_Mo_binary_548 (mb_610 hg hm hq k1.1 ?_ k1.2.2 ?_ hQ))
    · rw [k1.2.1.1 73 85 (by omega) (by omega) (by omega), e2.1 73 85 (by omega) (by omega) (by omega)]
      exact h85
    · exact FM_tr (P'' := PU q) (FM_tr (P'' := PU q) hF e2 (fun _ _ z => z) (fun c i z => PU_a (by omega) (by omega) (by omega))) k1.2.1 (fun _ _ z => z) (fun c i z => PU_a (by omega) (by omega) (by omega))
  · have e : o = 16 := (nI_eq (b := 16) (by omega) (by omega)).mp z
    subst e
    have em := hmw (by omega)
    subst em
    refine b_Mo_binary_551 hg (wm_multiply hg hw hw1 hK hW vX vY hX hY) (fun B1 k1 => b_Mo_binary_555 (mb_610 hg hm hq k1.1 ?_ k1.2.2 ?_ hQ))
    · rw [k1.2.1.1 73 85 (by omega) (by omega) (by omega)]
      exact h85
    · exact FM_tr (P'' := PU q) hF k1.2.1 (fun _ _ z => z) (fun c i z => PU_a (by omega) (by omega) (by omega))
  · have e : o = 17 ∨ o = 18 := by
      have y1 : ¬ o = 1 := fun e => z1 (by rw [e]; rfl)
      have y2 : ¬ o = 2 := fun e => z2 (by rw [e]; rfl)
      have y3 : ¬ o = 3 := fun e => z3 (by rw [e]; rfl)
      have y4 : ¬ o = 4 := fun e => z4 (by rw [e]; rfl)
      have y5 : ¬ o = 5 := fun e => z5 (by rw [e]; rfl)
      have y6 : ¬ o = 6 := fun e => z6 (by rw [e]; rfl)
      have y7 : ¬ o = 7 := fun e => z7 (by rw [e]; rfl)
      have y8 : ¬ o = 8 := fun e => z8 (by rw [e]; rfl)
      have y9 : ¬ o = 9 := fun e => z9 (by rw [e]; rfl)
      have y10 : ¬ o = 10 := fun e => z10 (by rw [e]; rfl)
      have y11 : ¬ o = 11 := fun e => z11 (by rw [e]; rfl)
      have y14 : ¬ o = 14 := fun e => z14 (by rw [e]; rfl)
      have y15 : ¬ o = 15 := fun e => z15 (by rw [e]; rfl)
      have y16 : ¬ o = 16 := fun e => z16 (by rw [e]; rfl)
      clear z1 z2 z3 z4 z5 z6 z7 z8 z9 z10 z11 z14 z15 z16 cor cand ceq cls cgt hQ hX hY
      omega
    have em := hmw (by omega)
    subst em
    have go : ∀ R : Nat → Int32, (nI o = 17 → R = ((divideP X Y m).2 T).1.1) → (¬ nI o = 17 → R = ((divideP X Y m).2 T).1.2) → (∀ B', OPd ((divideP X Y m).2 T).2 B0 B' q m R → Q none B') → zW l Gr (zc n m) 168 M_Mo_binary (d + 5) 558 [some (.ref 105), none, some (.int (nI o)), none, some (.int (nI m)), none, none, none] [] B Q := by
      intro R r1 r2 hQ
      refine b_Mo_binary_558 hg (wm_divide hg hw hK hW vX vY hX hY) (fun B1 k1 => b_Mo_binary_562 (mb_565 (R := R) hw m 0 B1 (by omega) k1.1 (fun z i hi => ?_) (fun z i hi => ?_) (fun i hi => absurd hi (by omega)) (fun B2 e1 e2 e3 => mb_610 hg hm hq e1 ?_ e3 ?_ hQ)))
      · rw [r1 z]
        exact (k1.2.2 i hi).1
      · rw [r2 z]
        exact (k1.2.2 i hi).2
      · rw [e2.1 73 85 (by omega) (by omega) (by omega), k1.2.1.1 73 85 (by omega) (by omega) (by omega)]
        exact h85
      · exact FM_tr (P'' := PU q) (FM_tr (P'' := PU q) hF k1.2.1 (fun _ _ z => z) (fun c i z => PU_a (by omega) (by omega) (by omega))) e2 (fun _ _ z => z) (fun c i z => PU_a (by omega) (by omega) (by omega))
    rcases e with e | e
    · subst e
      exact go _ (fun _ => rfl) (fun z => absurd rfl z) hQ
    · subst e
      exact go _ (fun z => absurd z (by decide)) (fun _ => rfl) hQ
/-- X at place q, Y above it -/
theorem wm_binary (hg : ip_gk (lg_tbl, vwCl, Gr)) (hw : w ≤ 32) (hw1 : 1 ≤ w) (hq : q + 1 < 4200) (hi : a < 12000) (ho : 1 ≤ o ∧ o ≤ 18 ∧ o ≠ 12 ∧ o ≠ 13) (h79 : B.1 79 a = nI o) (h80 : m = if B.1 80 a = 0 then w else 1) (hmw : 8 ≤ o → m = w) (hK : MEc T B) (hW : MW T) (h85 : B.1 73 85 = nI (q + 2)) (vX : ∀ j, VC T (X j)) (vY : ∀ j, VC T (Y j)) (hX : ∀ i, i < m → B.1 122 (32 * q + i) = X i) (hY : ∀ i, i < m → B.1 122 (32 * (q + 1) + i) = Y i) : zMv l Gr (zc n w) 168 M_Mo_binary (d + 5) [.ref 105, .int (nI a)] B (fun B' => OPd ((binP w m o X Y).2 T).2 B B' q (bwd o m) ((binP w m o X Y).2 T).1) := by
  have hm1 : 1 ≤ m := by rw [h80]; split <;> omega
  have hm : m ≤ 32 := by rw [h80]; split <;> omega
  refine e_Mo_binary (b_Mo_binary_0 hg (vp_in_nI (by omega) (by omega)) wm_width (fun v B1 k1 => ?_))
  rw [k1.2, nI_clamp (by omega), h79]
  have ev : v = nI m := by
    rw [k1.1, nI_clamp (by omega), h80]
    split <;> rfl
  rw [ev]
  refine b_Mo_binary_17 (fun z => absurd ((nI_eq (a := o) (b := 12) (by omega) (by omega)).mp z) ho.2.2.1) (fun _ => b_Mo_binary_24 (fun _ => ?_) (fun z => absurd ((nI_eq (a := o) (b := 13) (by omega) (by omega)).mp z) ho.2.2.2))
  refine b_Mo_binary_176 hg (wm_popY (q := q + 1) (X := Y) hm hq hK h85 hY) (fun B2 k2 => b_Mo_binary_181 hg (wm_popX (q := q) (X := X) hm (by omega) k2.1 k2.2.2.1 (fun i hi => by rw [k2.2.1.1 122 _ (by omega) (by omega) (by omega)]; exact hX i hi)) (fun B3 k3 => ?_))
  refine mb_186 (B0 := B) hg hw hw1 hm1 hm (by omega) ho hmw k3.1 hW k3.2.2.1 vX vY k3.2.2.2 (fun i hi => by rw [k3.2.1.1 124 _ (by omega) (by omega) (by omega)]; exact k2.2.2.2 i hi) (FM_tr (P'' := PU q) k2.2.1 k3.2.1 (fun c i z => by unfold PU; omega) (fun c i z => by unfold PU; omega)) (fun B' h => ⟨rfl, h⟩)
end MBI
