/-! statements: states of both readers, small methods -/
/-- the reference between two statements: k BLOCKs open, vw words of vars, iw of inputs -/
def PC (b : Nat → Int32) (t q j dp N k vw iw : Nat) (T : zS) : Prop := MC b t q j dp 0 N T ∧ T.1 73 26 = nI k ∧ T.1 73 30 = nI vw ∧ T.1 73 29 = nI iw
def PK (b : Nat → Int32) (t : Nat) (T T' : zS) (j k : Nat) : Prop :=
  cgT T T' 0 j ∧ (∀ a, a < j → T'.1 89 a = T.1 89 a) ∧ (∀ a, a < k → T'.1 87 a = T.1 87 a ∧ T'.1 88 a = T.1 88 a) ∧ (∀ c a, (c < 73 ∨ c = 74 ∨ c = 75 ∨ 89 < c) → T'.1 c a = T.1 c a) ∧
  (∀ a, (a < 6 ∨ (9 < a ∧ a < 13) ∨ (13 < a ∧ a < 19) ∨ (20 < a ∧ a < 25) ∨ (26 < a ∧ a < 29) ∨ 32 < a) → T'.1 73 a = T.1 73 a) ∧ (∀ c a, ¬ c = 82 → ¬ (c = 73 ∧ a = 12) → T'.2 c a = T.2 c a) ∧ (∀ v p, nid b t T v p → nid b t T' v p)
section PKS
variable {b : Nat → Int32} {t q j dp N k vw iw m : Nat} {T T' T'' : zS}
theorem PK_MK (h : MK b t T T' j m) : PK b t T T' j k :=
  ⟨h.1, fun a _ => h.2.2.1 89 a (by omega), fun a _ => ⟨h.2.2.1 87 a (by omega), h.2.2.1 88 a (by omega)⟩, fun c a hc => h.2.2.1 c a (by omega), fun a ha => h.2.2.2.1 a (by omega), h.2.2.2.2.1, h.2.2.2.2.2⟩
theorem PK_rfl : PK b t T T j k := PK_MK (m := 0) MK_rfl
theorem PK_tr (h1 : PK b t T T' j k) (h2 : PK b t T' T'' j k) : PK b t T T'' j k := by
  refine ⟨fun a a1 a2 => ?_, fun a ha => (h2.2.1 a ha).trans (h1.2.1 a ha), fun a ha => ⟨(h2.2.2.1 a ha).1.trans (h1.2.2.1 a ha).1, (h2.2.2.1 a ha).2.trans (h1.2.2.1 a ha).2⟩, fun c a hc => (h2.2.2.2.1 c a hc).trans (h1.2.2.2.1 c a hc), fun a ha => (h2.2.2.2.2.1 a ha).trans (h1.2.2.2.2.1 a ha), fun c a q1 q2 => (h2.2.2.2.2.2.1 c a q1 q2).trans (h1.2.2.2.2.2.1 c a q1 q2), fun v p hv => h2.2.2.2.2.2.2 v p (h1.2.2.2.2.2.2 v p hv)⟩
  obtain ⟨x1, x2, x3, x4, x5⟩ := h1.1 a a1 a2
  obtain ⟨y1, y2, y3, y4, y5⟩ := h2.1 a a1 a2
  exact ⟨y1.trans x1, y2.trans x2, y3.trans x3, y4.trans x4, y5.trans x5⟩
theorem PK_le {j' k' : Nat} (h : PK b t T T' j k) (hj : j' ≤ j) (hk : k' ≤ k) : PK b t T T' j' k' := ⟨fun a a1 a2 => h.1 a a1 (by omega), fun a ha => h.2.1 a (by omega), fun a ha => h.2.2.1 a (by omega), h.2.2.2⟩
theorem PK_zi {c a : Nat} {v : Int32} (h : (c = 73 ∧ (a = 6 ∨ a = 7 ∨ a = 8 ∨ a = 13 ∨ a = 19 ∨ a = 20 ∨ a = 25 ∨ a = 26 ∨ a = 29 ∨ a = 30 ∨ a = 31 ∨ a = 32)) ∨ (78 ≤ c ∧ c ≤ 81 ∧ j ≤ a) ∨ (c = 89 ∧ j ≤ a) ∨ (87 ≤ c ∧ c ≤ 88 ∧ k ≤ a)) : PK b t T (zi T c a v) j k := by
  have g : ∀ c' a', (c' = c → a' = a → False) → (zi T c a v).1 c' a' = T.1 c' a' := fun c' a' h' => by
    rw [zi_get, if_neg (fun z => h' z.1 z.2)]
  refine ⟨fun a' a1 a2 => ⟨g _ _ (by omega), g _ _ (by omega), g _ _ (by omega), g _ _ (by omega), rfl⟩, fun a' ha => g _ _ (by omega), fun a' ha => ⟨g _ _ (by omega), g _ _ (by omega)⟩, fun c' a' hc => g _ _ (by omega), fun a' ha => g _ _ (by omega), fun _ _ _ _ => rfl, fun v' p hv => ?_⟩
  obtain ⟨N', a0, h1, h2, h3, h4, h5, h6⟩ := hv
  exact ⟨N', a0, (g _ _ (by omega)).trans h1, h2, h3, h4, (g _ _ (by omega)).trans h5, h6⟩
theorem PK_zj {c a : Nat} {v : Int64} (h : (c = 82 ∧ j ≤ a) ∨ (c = 73 ∧ a = 12)) : PK b t T (zj T c a v) j k := PK_MK (m := 0) (MK_zj h)
theorem PK_mP {j0 : Nat} {x1 x2 x3 x4 : Int32} (h : j ≤ j0) : PK b t T (mP T j0 x1 x2 x3 x4) j k := PK_MK (m := 0) (MK_mP h)
theorem PK_mF {f p : Int32} : PK b t T (mF T f p) j k := PK_MK (m := 0) MK_mF
theorem PC_MK {q' j' dp' N' : Nat} (h : PC b t q j dp N k vw iw T) (hM : MC b t q' j' dp' 0 N' T') (hK : MK b t T T' 0 m) : PC b t q' j' dp' N' k vw iw T' :=
  ⟨hM, (hK.2.2.2.1 26 (by omega)).trans h.2.1, (hK.2.2.2.1 30 (by omega)).trans h.2.2.1, (hK.2.2.2.1 29 (by omega)).trans h.2.2.2⟩
end PKS
section STL
variable {l : Launch} {Gr : zG} {n w : Nat} {d : Nat} {b : Nat → Int32} {t p i ws dp p' i' q j m N X u : Nat} {S S' T T' : zS}
/-- the reference reads one EXPR -/
theorem x_ok (hg : ip_gk (lg_tbl, vwCl, Gr)) (htx : ∀ k, k < t → tx (b k)) (hdp : dp ≤ 30) (hE : EOK l Gr n w d b t S S' p i ws dp p' i') (hM : MC b t q j dp 0 N T) (hgq : gp b t q = p) (hb : bud b t X j 0 N q) : ∃ Y j' N', zMv l Gr (zc n w) 168 M_Mo_expression (d + 10) [.ref 105] T (fun A => A = Y) ∧ MC b t p' j' dp 0 N' Y ∧ MK b t T Y j 0 ∧ bud b t X j' 0 N' p' ∧ gX w S' Y (nid b t Y) p i i' j j' := by
  have hH : HE b t q j dp 0 N X 0 p T := ⟨hM, hgq, hb, Nat.le_refl _, Nat.zero_le _, fun k hk => absurd hk (Nat.not_lt_zero k), Or.inl rfl, Or.inl rfl⟩
  obtain ⟨T', Y, q', j1, d1, m1, j', N', rx, hM1, hgp, h51, hY, hK, hbY, hX, -⟩ := E0_of hg hdp hH (hE.2.2.2.2.2.2 T q j 0 N X 0 hH)
  refine ⟨Y, j', N', ?_, hY, hK, hbY, hX⟩
  have ex := rx_e (d := d) (T' := Y) hg htx hM1 hgp hE.2.2.2.2.1 hE.2.2.2.2.2.1 (e_Mo_closes (h51 _ (b_Mo_closes_51 (fun z => absurd hY.2.2.2.2.1 z) (fun _ => b_Mo_closes_59 ⟨_, rfl, Or.inl rfl, rfl, rfl⟩))))
  have fin : zi Y 73 20 0 = Y := zi_id hY.2.2.2.2.1
  refine e_Mo_expression (b_Mo_expression_0 ?_)
  rw [hM.2.2.2.2.1]
  exact RX_EX rx ex _ (by rw [fin]; exact ⟨rfl, rfl⟩)
theorem x_bad (hg : ip_gk (lg_tbl, vwCl, Gr)) {f pl : Int32} (hE : EBD l Gr n w d b t S S' p dp f pl) (hM : MC b t q j dp 0 N T) (hgq : gp b t q = p) (hb : bud b t X j 0 N q) : ∃ Y, zMv l Gr (zc n w) 168 M_Mo_expression (d + 10) [.ref 105] T (fun A => A = Y) ∧ Y.1 73 7 = f ∧ Y.1 73 8 = pl ∧ MK b t T Y 0 0 := by
  have hH : HE b t q j dp 0 N X 0 p T := ⟨hM, hgq, hb, Nat.le_refl _, Nat.zero_le _, fun k hk => absurd hk (Nat.not_lt_zero k), Or.inl rfl, Or.inl rfl⟩
  obtain ⟨T', ex, h7, h8, hK⟩ := hE.2 T q j 0 N X 0 hH
  refine ⟨zi T' 73 20 0, ?_, by rw [zi_k (by decide)]; exact h7, by rw [zi_k (by decide)]; exact h8, MK_tr hK (MK_zi (by omega))⟩
  refine e_Mo_expression (b_Mo_expression_0 ?_)
  rw [hM.2.2.2.2.1]
  exact ex _ ⟨rfl, rfl⟩
theorem wx_stop {pl : Nat} (hg : ip_gk (lg_tbl, vwCl, Gr)) (ht : t ≤ 4000) (hb : S.1 2 = b) (h1 : S.1 8 1 = nI t) {Q : Option Value → zS → Prop} : ∀ (m a : Nat), t - a = m → a ≤ t → Q (some (.int (nI (re pn b t a)))) S → zW l Gr (zc n w) 168 M_Names_stopOf (d + 1) 2 [some (.ref 40), none, some (.int (nI a))] [] S Q
  | 0, a, hm, ha, k => b_Names_stopOf_2 (fun _ => b_Names_stopOf_28 (by rw [re_0 (fun z => by omega)] at k; exact k)) (fun z => by rw [h1] at z; exact absurd (nI_le (by omega) (by omega)) z)
  | m + 1, a, hm, ha, k => b_Names_stopOf_2 (fun z => by rw [h1] at z; exact absurd z (nI_ge (by omega) (by omega))) (fun _ => b_Names_stopOf_10 hg (vp_in_nI (by omega) (by omega)) w_isNameByte (fun v S' hv => by
      rw [hv.1, hv.2, nI_clamp (by omega), hb]
      by_cases z : isn (b a)
      · rw [if_pos z]
        refine b_Names_stopOf_19 (fun y => absurd y (by decide)) (fun _ => b_Names_stopOf_22 ?_)
        rw [show nI a + Int32.ofInt 1 = nI (a + 1) from nI_1 a]
        refine wx_stop (pl := pl) hg ht hb h1 m (a + 1) (by omega) (by omega) ?_
        rw [← re_s (by omega) (decide_eq_true z)]
        exact k
      · rw [if_neg z]
        refine b_Names_stopOf_19 (fun _ => b_Names_stopOf_28 ?_) (fun y => absurd rfl y)
        rw [re_0 (fun y => z (of_decide_eq_true y.2))] at k
        exact k))
theorem w_stopOf {pl : Nat} (hg : ip_gk (lg_tbl, vwCl, Gr)) (ht : t ≤ 4000) (hb : S.1 2 = b) (h1 : S.1 8 1 = nI t) (hp : pl ≤ t) : zMi l Gr (zc n w) 168 M_Names_stopOf (d + 1) [.ref 40, .int (nI pl)] S (fun v S' => S' = S ∧ v = nI (re pn b t pl)) :=
  e_Names_stopOf (b_Names_stopOf_0 (wx_stop (pl := pl) hg ht hb h1 _ pl rfl hp ⟨_, rfl, rfl, rfl⟩))
/-- a NAME comes in, as number D -/
def nA (S : zS) (D : Nat) (kd pl stop sort size base : Int32) : zS := zi (zi (zi (zi (zi (zi (zi (zi S 9 D pl) 10 D stop) 11 D kd) 12 D sort) 13 D size) 14 D base) 15 D 0) 8 9 (nI (D + 1))
theorem w_nadd {pl D : Nat} {kd sort size base : Int32} (hg : ip_gk (lg_tbl, vwCl, Gr)) (ht : t ≤ 4000) (hb : S.1 2 = b) (h1 : S.1 8 1 = nI t) (h9 : S.1 8 9 = nI D) (hD : D < 800) (hp : pl ≤ t) : zMi l Gr (zc n w) 168 M_Names_add (d + 2) [.ref 40, .int kd, .int (nI pl), .int sort, .int size, .int base] S (fun v S' => v = nI D ∧ S' = nA S D kd (nI pl) (nI (re pn b t pl)) sort size base) := by
  have hin : vp_in (S.1 8 9) 800 := by rw [h9]; exact vp_in_nI hD (by omega)
  refine e_Names_add (b_Names_add_0 (fun _ => b_Names_add_12 hg hin (w_stopOf (b := b) hg ht (by rw [zi_row (by decide)]; exact hb) (by rw [zi_c (by decide)]; exact h1) hp) (fun v S1 hv => ?_)) (fun z => ?_))
  · rw [hv.1, hv.2]
    have g9 : (zi S 9 ((S.1 8 9).toNatClampNeg) (nI pl)).1 8 9 = nI D := by rw [zi_c (by decide)]; exact h9
    refine b_Names_add_35 hin (by rw [g9]; exact vp_in_nI hD (by omega)) ⟨_, rfl, g9, ?_⟩
    rw [g9, h9, nI_clamp (by omega), nI_1]
    rfl
  · rw [h9] at z
    exact absurd (nI_lt (a := D) (b := 800) hD (by omega)) z
theorem w_words {D sz : Nat} (h : D < 800) (hs : S.1 13 D = nI sz) (hsz : sz ≤ 64) : zMi l Gr (zc n w) 168 M_Names_words (d + 1) [.ref 40, .int (nI D)] S (fun v S' => S' = S ∧ v = nI (max 1 sz)) := by
  refine e_Names_words (b_Names_words_0 (vp_in_nI h (by omega)) ⟨_, rfl, rfl, ?_⟩)
  rw [nI_clamp (by omega), hs]
  unfold ip_max
  by_cases z : sz = 0
  · subst z; decide
  · rw [show max 1 sz = sz by omega]
    by_cases y : sz = 1
    · subst y; decide
    · exact if_pos (nI_lt (a := 1) (b := sz) (by omega) (by omega))
end STL
