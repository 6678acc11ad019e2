/-! the reference's words -/
def mA (b : Nat → Int32) (t q : Nat) (T : zS) : Prop := T.1 73 5 = nI t ∧ (∀ k, k < t → T.1 75 k = b k) ∧ T.1 73 6 = nI q ∧ q ≤ t ∧ t ≤ 4000
def lk (b : Nat → Int32) (t q : Nat) : Int32 := if q < t then b q else -1
def we (b : Nat → Int32) (t q : Nat) : Nat := if isl (lk b t q) then re pn b t q else q
abbrev pr (a x : Int32) : Prop := (a = 124 ∧ x = 124) ∨ (a = 38 ∧ x = 38) ∨ ((a = 61 ∨ a = 33 ∨ a = 60 ∨ a = 62) ∧ x = 61) ∨ (a = 60 ∧ x = 60) ∨ (a = 62 ∧ x = 62)
theorem mA_at {b : Nat → Int32} {t q q' : Nat} {T : zS} (h : mA b t q T) (h' : q' ≤ t) : mA b t q' (zi T 73 6 (nI q')) := ⟨by rw [zi_k (by decide)]; exact h.1, fun k hk => by rw [zi_c (by decide)]; exact h.2.1 k hk, zi_v, h', h.2.2.2.2⟩
theorem we_le {b : Nat → Int32} {t q : Nat} (h : q ≤ t) : q ≤ we b t q ∧ we b t q ≤ t := by
  unfold we
  split
  · exact ⟨re_ge h, re_le h⟩
  · exact ⟨Nat.le_refl _, h⟩
theorem lk_end {b : Nat → Int32} {t q : Nat} (h : ¬ q < t) : lk b t q = -1 := if_neg h
theorem lk_in {b : Nat → Int32} {t q : Nat} (h : q < t) : lk b t q = b q := if_pos h
theorem lk_lt {b : Nat → Int32} {t q : Nat} {c : Int32} (h : lk b t q = c) (hc : ¬ c = -1) : q < t ∧ b q = c := by
  unfold lk at h
  split at h
  · exact ⟨by assumption, h⟩
  · exact absurd h.symm hc
theorem isl_m1 : ¬ isl (-1) := by decide
theorem isd_m1 : ¬ isd (-1) := by decide
section ML
variable {l : Launch} {Gr : zG} {n w : Nat} {d : Nat} {S : zS} {b : Nat → Int32} {t q : Nat}
theorem wm_isDigit {c : Int32} : zMi l Gr (zc n w) 168 M_Mo_isDigit d [.int c] S (fun v S' => S' = S ∧ v = if isd c then 1 else 0) :=
  e_Mo_isDigit (b_Mo_isDigit_0 (fun q => b_Mo_isDigit_16 (b_Mo_isDigit_17 ⟨_, rfl, Or.inl rfl, rfl, (if_neg (fun z => absurd z.1 (Int32.not_le.mpr q))).symm⟩)) (fun q => b_Mo_isDigit_6 (fun q2 => b_Mo_isDigit_16 (b_Mo_isDigit_17 ⟨_, rfl, Or.inl rfl, rfl, (if_neg (fun z => absurd z.2 (Int32.not_le.mpr q2))).symm⟩)) (fun q2 => b_Mo_isDigit_12 (b_Mo_isDigit_17 ⟨_, rfl, Or.inr rfl, rfl, (if_pos ⟨Int32.not_lt.mp q, Int32.not_lt.mp q2⟩).symm⟩))))
theorem wm_isLetter {c : Int32} : zMi l Gr (zc n w) 168 M_Mo_isLetter d [.int c] S (fun v S' => S' = S ∧ v = if isl c then 1 else 0) := by
  have y : isl c → zW l Gr (zc n w) 168 M_Mo_isLetter d 30 [none] [] S (fun v S' => ∃ x, v = some (.int x) ∧ (x = 0 ∨ x = 1) ∧ S' = S ∧ x = if isl c then 1 else 0) := fun h => b_Mo_isLetter_30 (b_Mo_isLetter_35 ⟨_, rfl, Or.inr rfl, rfl, (if_pos h).symm⟩)
  have o : ¬ isl c → zW l Gr (zc n w) 168 M_Mo_isLetter d 34 [none] [] S (fun v S' => ∃ x, v = some (.int x) ∧ (x = 0 ∨ x = 1) ∧ S' = S ∧ x = if isl c then 1 else 0) := fun h => b_Mo_isLetter_34 (b_Mo_isLetter_35 ⟨_, rfl, Or.inl rfl, rfl, (if_neg h).symm⟩)
  have h24 : ¬ (97 ≤ c ∧ c ≤ 122) → ¬ (65 ≤ c ∧ c ≤ 90) → zW l Gr (zc n w) 168 M_Mo_isLetter d 24 [some (.int c)] [] S (fun v S' => ∃ x, v = some (.int x) ∧ (x = 0 ∨ x = 1) ∧ S' = S ∧ x = if isl c then 1 else 0) := fun h1 h2 =>
    b_Mo_isLetter_24 (fun q => o (fun z => z.elim h1 (fun z => z.elim h2 q))) (fun q => y (Or.inr (Or.inr q)))
  have h12 : ¬ (97 ≤ c ∧ c ≤ 122) → zW l Gr (zc n w) 168 M_Mo_isLetter d 12 [some (.int c)] [] S (fun v S' => ∃ x, v = some (.int x) ∧ (x = 0 ∨ x = 1) ∧ S' = S ∧ x = if isl c then 1 else 0) := fun h1 =>
    b_Mo_isLetter_12 (fun q => h24 h1 (fun z => absurd z.1 (Int32.not_le.mpr q))) (fun q => b_Mo_isLetter_18 (fun q2 => y (Or.inr (Or.inl ⟨Int32.not_lt.mp q, q2⟩))) (fun q2 => h24 h1 (fun z => q2 z.2)))
  exact e_Mo_isLetter (b_Mo_isLetter_0 (fun q => h12 (fun z => absurd z.1 (Int32.not_le.mpr q))) (fun q => b_Mo_isLetter_6 (fun q2 => y (Or.inl ⟨Int32.not_lt.mp q, q2⟩)) (fun q2 => h12 (fun z => q2 z.2))))
theorem wm_look0 {k : Nat} (hk : k ≤ 5) (h : mA b t q S) : zMi l Gr (zc n w) 168 M_Mo_look0 d [.ref 105, .int (nI k)] S (fun v S' => S' = S ∧ v = lk b t (q + k)) := by
  obtain ⟨h5, hb, h6, hq, ht⟩ := h
  refine e_Mo_look0 (b_Mo_look0_0 (fun z => b_Mo_look0_27 (b_Mo_look0_28 ⟨_, rfl, rfl, ?_⟩)) (fun z => ?_))
  · rw [h5, h6, nI_add] at z
    exact (lk_end (by have := (nI_leI (by omega) (by omega)).mp z; omega)).symm
  · rw [h5, h6, nI_add] at z
    have : q + k < t := Nat.lt_of_not_le (fun y => z (nI_le y (by omega)))
    refine b_Mo_look0_13 (by rw [h6, nI_add]; exact vp_in_nI (by omega) (by omega)) (b_Mo_look0_28 ⟨_, rfl, rfl, ?_⟩)
    rw [h6, nI_add, nI_clamp (by omega), hb _ this, lk_in this]
theorem wm_k0 (h : mA b t q S) : zMi l Gr (zc n w) 168 M_Mo_look0 d [.ref 105, .int 0] S (fun v S' => S' = S ∧ v = lk b t q) := wm_look0 (k := 0) (by omega) h
theorem wm_k1 (h : mA b t q S) : zMi l Gr (zc n w) 168 M_Mo_look0 d [.ref 105, .int 1] S (fun v S' => S' = S ∧ v = lk b t (q + 1)) := wm_look0 (k := 1) (by omega) h
theorem wg_cm {Q : Option Value → zS → Prop} : ∀ (m i : Nat) (S : zS), t - i = m → mA b t i S → (∀ i', i ≤ i' → i' ≤ t → (i < t → ¬ b i = 10 → i < i') → gq b t true i = gq b t false i' → zW l Gr (zc n w) 168 M_Mo_gap (d + 1) 114 [some (.ref 105), some (.int 1), none] [] (zi S 73 6 (nI i')) Q) → zW l Gr (zc n w) 168 M_Mo_gap (d + 1) 48 [some (.ref 105), some (.int 1), none] [] S Q
  | 0, i, S, hm, h, k => by
    obtain ⟨h5, hb, h6, hq, ht⟩ := h
    refine b_Mo_gap_48 (fun z => ?_) (fun z => ?_)
    · have := k i (Nat.le_refl _) hq (fun y => by omega) (by rw [gq_end (by omega), gq_end (by omega)])
      rw [zi_id h6] at this
      exact this
    · rw [h5, h6] at z
      exact absurd (nI_le (by omega) (by omega)) z
  | m + 1, i, S, hm, h, k => by
    have h' := h
    obtain ⟨h5, hb, h6, hq, ht⟩ := h
    refine b_Mo_gap_48 (fun z => ?_) (fun z => b_Mo_gap_59 (fun z2 => ?_) (fun z2 => b_Mo_gap_73 (b_Mo_gap_81 (by rw [h6]; exact vp_in_nI (by omega) (by omega)) (fun z3 => ?_) (fun z3 => b_Mo_gap_87 ?_))))
    · rw [h5, h6] at z
      exact absurd z (nI_ge (by omega) (by omega))
    · rw [h6] at z2
      exact absurd z2 (nI_ge (a := i) (b := 4000) (by omega) (by omega))
    · rw [h6, nI_clamp (by omega), hb i (by omega)] at z3
      have := k i (Nat.le_refl _) hq (fun _ y => absurd z3 y) (by rw [gq_nl (by omega) z3, gq_nl (by omega) z3])
      rw [zi_id h6] at this
      exact this
    · rw [h6, nI_clamp (by omega), hb i (by omega)] at z3
      rw [h6, nI_1]
      refine wg_cm m (i + 1) _ (by omega) (mA_at h' (by omega)) (fun i' a1 a2 _ a4 => ?_)
      rw [zi_zi]
      exact k i' (by omega) a2 (fun _ _ => by omega) (by rw [gq_cm (by omega) z3 (Or.inl rfl)]; exact a4)
theorem wg_all (hg : ip_gk (lg_tbl, vwCl, Gr)) {Q : Option Value → zS → Prop} : ∀ (m i : Nat) (S : zS), t - i ≤ m → mA b t i S → Q none (zi S 73 6 (nI (gp b t i))) → zW l Gr (zc n w) 168 M_Mo_gap (d + 1) 2 [some (.ref 105), some (.int 1), none] [] S Q := by
  intro m
  induction m with
  | zero =>
    intro i S hm h k
    refine b_Mo_gap_2 (fun z => absurd z (by decide)) (fun _ => b_Mo_gap_6 hg (wm_k0 h) (fun v S' hv => ?_))
    obtain ⟨e, hv⟩ := hv
    rw [e, hv, lk_end (by have := h.2.2.2.1; omega)]
    refine b_Mo_gap_11 (fun z => absurd z (by decide)) (fun _ => b_Mo_gap_18 (fun z => absurd z (by decide)) (fun _ => b_Mo_gap_24 (fun z => absurd z (by decide)) (fun _ => b_Mo_gap_30 (fun _ => b_Mo_gap_40 (b_Mo_gap_41 (fun _ => b_Mo_gap_100 (fun _ => b_Mo_gap_114 (b_Mo_gap_2 (fun _ => b_Mo_gap_117 ?_) (fun z => absurd rfl z))) (fun z => absurd rfl z)) (fun z => absurd z (by decide)))) (fun z => absurd z (by decide)))))
    rw [show gp b t i = i from gq_end (by omega), zi_id h.2.2.1] at k
    exact k
  | succ m ih =>
    intro i S hm h k
    have h' := h
    obtain ⟨h5, hb, h6, hq, ht⟩ := h
    refine b_Mo_gap_2 (fun z => absurd z (by decide)) (fun _ => b_Mo_gap_6 hg (wm_k0 h') (fun v S' hv => ?_))
    obtain ⟨e, hv⟩ := hv
    rw [e, hv]
    have stp : i < t → gp b t i = gp b t (i + 1) → zW l Gr (zc n w) 168 M_Mo_gap (d + 1) 104 [some (.ref 105), some (.int 1), none] [] S Q := fun hi eg => by
      refine b_Mo_gap_104 (b_Mo_gap_114 ?_)
      rw [h6, nI_1]
      refine ih (i + 1) _ (by omega) (mA_at h' (by omega)) ?_
      rw [zi_zi, ← eg]
      exact k
    have hash : lk b t i = 35 → zW l Gr (zc n w) 168 M_Mo_gap (d + 1) 48 [some (.ref 105), some (.int 1), none] [] S Q := fun z => by
      obtain ⟨hi, z⟩ := lk_lt z (by decide)
      refine wg_cm _ i S rfl h' (fun i' a1 a2 a3 a4 => b_Mo_gap_114 ?_)
      have n10 : ¬ b i = 10 := by rw [z]; decide
      refine ih i' _ (by have := a3 hi n10; omega) (mA_at h' a2) ?_
      rw [zi_zi]
      rw [show gp b t i = gq b t true (i + 1) from gq_cm hi n10 (Or.inr z), ← gq_cm hi n10 (Or.inl rfl), a4] at k
      exact k
    refine b_Mo_gap_11 (fun z => ?_) (fun z32 => b_Mo_gap_18 (fun z => ?_) (fun z9 => b_Mo_gap_24 (fun z => ?_) (fun z10 => b_Mo_gap_30 (fun z35 => b_Mo_gap_40 (b_Mo_gap_41 (fun _ => b_Mo_gap_100 (fun _ => b_Mo_gap_114 (b_Mo_gap_2 (fun _ => b_Mo_gap_117 ?_) (fun z => absurd rfl z))) (fun z => absurd rfl z)) (fun z => absurd z z35))) (fun z => b_Mo_gap_36 (b_Mo_gap_41 (fun y => absurd z y) (fun _ => hash z))))))
    · obtain ⟨hi, z'⟩ := lk_lt z (by decide)
      exact b_Mo_gap_36 (b_Mo_gap_41 (fun _ => b_Mo_gap_100 (fun y => absurd y (by decide)) (fun _ => stp hi (gp_bl hi (by rw [z']; decide) (by rw [z']; decide) (Or.inl z')))) (fun y => absurd (z.symm.trans y) (by decide)))
    · obtain ⟨hi, z'⟩ := lk_lt z (by decide)
      exact b_Mo_gap_36 (b_Mo_gap_41 (fun _ => b_Mo_gap_100 (fun y => absurd y (by decide)) (fun _ => stp hi (gp_bl hi (by rw [z']; decide) (by rw [z']; decide) (Or.inr z')))) (fun y => absurd (z.symm.trans y) (by decide)))
    · obtain ⟨hi, z'⟩ := lk_lt z (by decide)
      exact b_Mo_gap_36 (b_Mo_gap_41 (fun _ => b_Mo_gap_100 (fun y => absurd y (by decide)) (fun _ => stp hi (gq_nl hi z'))) (fun y => absurd (z.symm.trans y) (by decide)))
    · have : gp b t i = i := gp_wb ⟨hq, fun hi => by rw [lk_in hi] at z32 z9 z10 z35; exact ⟨z10, z35, z32, z9⟩⟩
      rw [this, zi_id h6] at k
      exact k
theorem wm_gap (hg : ip_gk (lg_tbl, vwCl, Gr)) (h : mA b t q S) : zMv l Gr (zc n w) 168 M_Mo_gap (d + 1) [.ref 105] S (fun S' => S' = zi S 73 6 (nI (gp b t q))) :=
  e_Mo_gap (b_Mo_gap_0 (wg_all hg _ q S (Nat.le_refl _) h ⟨rfl, rfl⟩))
theorem wx_we (hg : ip_gk (lg_tbl, vwCl, Gr)) (h : mA b t q S) {Q : Option Value → zS → Prop} : ∀ (m i : Nat), t - i = m → i ≤ t → Q (some (.int (nI (re pn b t i)))) S → zW l Gr (zc n w) 168 M_Mo_wordEnd (d + 1) 16 [some (.ref 105), some (.int (nI i))] [] S Q
  | 0, i, hm, hi, k => b_Mo_wordEnd_16 (fun _ => b_Mo_wordEnd_76 (by rw [re_0 (fun z => by omega)] at k; exact k)) (fun z => by rw [h.1] at z; exact absurd (nI_le (by omega) (by have := h.2.2.2.2; omega)) z)
  | m + 1, i, hm, hi, k => by
    have ht := h.2.2.2.2
    have go : isn (b i) → zW l Gr (zc n w) 168 M_Mo_wordEnd (d + 1) 70 [some (.ref 105), some (.int (nI i))] [] S Q := fun z => by
      refine b_Mo_wordEnd_70 ?_
      rw [show nI i + Int32.ofInt 1 = nI (i + 1) from nI_1 i]
      refine wx_we hg h m (i + 1) (by omega) (by omega) ?_
      rw [← re_s (by omega) (decide_eq_true z)]
      exact k
    have ec : S.1 75 ((nI i).toNatClampNeg) = b i := by rw [nI_clamp (by omega), h.2.1 i (by omega)]
    refine b_Mo_wordEnd_16 (fun z => by rw [h.1] at z; exact absurd z (nI_ge (by omega) (by omega))) (fun _ => b_Mo_wordEnd_24 (fun z => absurd z (nI_ge (a := i) (b := 4000) (by omega) (by omega))) (fun _ => b_Mo_wordEnd_35 (b_Mo_wordEnd_40 hg (vp_in_nI (by omega) (by omega)) wm_isLetter (fun v S' hv => ?_))))
    obtain ⟨e, hv⟩ := hv
    rw [e]
    rw [ec] at hv
    by_cases z1 : isl (b i)
    · rw [if_pos z1] at hv
      subst hv
      exact b_Mo_wordEnd_44 (fun _ => go (Or.inl z1)) (fun y => absurd y (by decide))
    · rw [if_neg z1] at hv
      subst hv
      refine b_Mo_wordEnd_44 (fun y => absurd rfl y) (fun _ => b_Mo_wordEnd_47 (fun z => absurd z (nI_ge (a := i) (b := 4000) (by omega) (by omega))) (fun _ => b_Mo_wordEnd_58 (b_Mo_wordEnd_63 hg (vp_in_nI (by omega) (by omega)) wm_isDigit (fun v S' hv => ?_))))
      obtain ⟨e, hv⟩ := hv
      rw [e]
      rw [ec] at hv
      by_cases z2 : isd (b i)
      · rw [if_pos z2] at hv
        subst hv
        exact b_Mo_wordEnd_67 (fun y => absurd y (by decide)) (fun _ => go (Or.inr z2))
      · rw [if_neg z2] at hv
        subst hv
        refine b_Mo_wordEnd_67 (fun _ => b_Mo_wordEnd_76 ?_) (fun y => absurd rfl y)
        rw [re_0 (fun z => (of_decide_eq_true z.2).elim z1 z2)] at k
        exact k
theorem wm_wordEnd (hg : ip_gk (lg_tbl, vwCl, Gr)) (h : mA b t q S) : zMi l Gr (zc n w) 168 M_Mo_wordEnd (d + 1) [.ref 105] S (fun v S' => S' = S ∧ v = nI (we b t q)) := by
  refine e_Mo_wordEnd (b_Mo_wordEnd_0 hg (wm_k0 h) (fun v S' hv => ?_))
  obtain ⟨e, hv⟩ := hv
  rw [e, hv]
  refine b_Mo_wordEnd_10 hg wm_isLetter (fun v S' hv => ?_)
  obtain ⟨e, hv⟩ := hv
  rw [e, h.2.2.1]
  by_cases z : isl (lk b t q)
  · rw [if_pos z] at hv
    subst hv
    refine b_Mo_wordEnd_13 (fun y => absurd y (by decide)) (fun _ => wx_we hg h _ q rfl h.2.2.2.1 ⟨_, rfl, rfl, ?_⟩)
    unfold we
    rw [if_pos z]
  · rw [if_neg z] at hv
    subst hv
    refine b_Mo_wordEnd_13 (fun _ => b_Mo_wordEnd_76 ⟨_, rfl, rfl, ?_⟩) (fun y => absurd rfl y)
    unfold we
    rw [if_neg z]
theorem wl_w4 (hg : ip_gk (lg_tbl, vwCl, Gr)) (ho : ip_old (lg_tbl, vwCl, Gr)) (h : mA b t q S) (hN : q + 5 ≤ t) {Q : Option Value → zS → Prop} (hy : (∀ k, k < 5 → b (q + k) = kw0.getD k 0) → Q (some (.int 1)) S) (hn : ¬ (∀ k, k < 5 → b (q + k) = kw0.getD k 0) → Q (some (.int 0)) S) : ∀ (j r : Nat), r + j = 5 → (∀ k, k < r → b (q + k) = kw0.getD k 0) → zW l Gr (zc n w) 168 M_Mo_isWord (d + 4) 35 [some (.ref 105), some (.ref 4), none, some (.int 1), some (.int (nI r))] [] S Q
  | 0, r, hr, hk => b_Mo_isWord_r4_35 (fun z => absurd z (by decide)) (fun _ => b_Mo_isWord_r4_39 hg ho (fun _ => b_Mo_isWord_r4_81 (hy (by rw [show 5 = r by omega]; exact hk))) (fun z => absurd (nI_le (a := 5) (b := r) (by omega) (by omega)) z))
  | j + 1, r, hr, hk => by
    have ht := h.2.2.2.2
    refine b_Mo_isWord_r4_35 (fun z => absurd z (by decide)) (fun _ => b_Mo_isWord_r4_39 hg ho (fun z => absurd z (nI_ge (a := r) (b := 5) (by omega) (by omega))) (fun _ => b_Mo_isWord_r4_48 hg ho (by rw [h.2.2.1, nI_add]; exact vp_in_nI (by omega) (by omega)) (vp_in_nI (by omega) (by omega)) (fun z => b_Mo_isWord_r4_73 (b_Mo_isWord_r4_74 (b_Mo_isWord_r4_35 (fun _ => b_Mo_isWord_r4_81 (hn (fun y => z ?_))) (fun y => absurd rfl y)))) (fun z => b_Mo_isWord_r4_69 (b_Mo_isWord_r4_74 ?_))))
    · rw [h.2.2.1, nI_add, nI_clamp (by omega), h.2.1 _ (by omega), y r (by omega), nI_clamp (by omega)]
      exact (show ∀ k, k < 5 → kw0.getD k 0 = ((oTx1 k &&& 255).toUInt32 % 65536).toInt32 by decide) r (by omega)
    · rw [h.2.2.1, nI_add, nI_clamp (by omega), h.2.1 _ (by omega), nI_clamp (by omega)] at z
      rw [show nI r + Int32.ofInt 1 = nI (r + 1) from nI_1 r]
      refine wl_w4 hg ho h hN hy hn j (r + 1) (by omega) (fun k hk' => ?_)
      by_cases e : k = r
      · subst e
        rw [z]
        exact ((show ∀ k, k < 5 → kw0.getD k 0 = ((oTx1 k &&& 255).toUInt32 % 65536).toInt32 by decide) k (by omega)).symm
      · exact hk k (by omega)
theorem wm_isW0 (hg : ip_gk (lg_tbl, vwCl, Gr)) (ho : ip_old (lg_tbl, vwCl, Gr)) (h : mA b t q S) : zMi l Gr (zc n w) 168 M_Mo_isWord (d + 4) [.ref 105, .ref 4] S (fun v S' => S' = S ∧ v = if wd b q (we b t q) = kw0 then 1 else 0) := by
  have hw := we_le (b := b) h.2.2.2.1
  have ht := h.2.2.2.2
  refine e_Mo_isWord_r4 (b_Mo_isWord_r4_0 hg (wm_wordEnd hg h) (fun v S' hv => ?_))
  obtain ⟨e, hv⟩ := hv
  rw [e, hv]
  have no : ¬ wd b q (we b t q) = kw0 → zW l Gr (zc n w) 168 M_Mo_isWord (d + 4) 30 [some (.ref 105), some (.ref 4), none, none, none] [] S (fun v S' => ∃ x, v = some (.int x) ∧ (x = 0 ∨ x = 1) ∧ S' = S ∧ x = if wd b q (we b t q) = kw0 then 1 else 0) := fun z => b_Mo_isWord_r4_30 (b_Mo_isWord_r4_31 (b_Mo_isWord_r4_35 (fun _ => b_Mo_isWord_r4_81 ⟨_, rfl, Or.inl rfl, rfl, (if_neg z).symm⟩) (fun y => absurd rfl y)))
  refine b_Mo_isWord_r4_4 hg ho (fun z => no (fun y => z ?_)) (fun z => ?_)
  · rw [wd_iff] at y
    rw [h.2.2.1, pk_sub hw.1, y.1]
    rfl
  · rw [h.2.2.1, pk_sub hw.1] at z
    have z1 : we b t q - q = 5 := (nI_eq (by omega) (by omega)).mp z
    have iff : wd b q (we b t q) = kw0 ↔ ∀ k, k < 5 → b (q + k) = kw0.getD k 0 := by
      rw [wd_iff]
      exact ⟨fun y => y.2, fun y => ⟨z1, y⟩⟩
    refine b_Mo_isWord_r4_18 (fun y => ?_) (fun _ => b_Mo_isWord_r4_26 (b_Mo_isWord_r4_31 ?_))
    · rw [h.2.2.1] at y
      have := (nI_leI (by omega) (by omega)).mp y
      omega
    · exact wl_w4 hg ho h (by omega) (fun y => ⟨_, rfl, Or.inr rfl, rfl, (if_pos (iff.mpr y)).symm⟩) (fun y => ⟨_, rfl, Or.inl rfl, rfl, (if_neg (fun z => y (iff.mp z))).symm⟩) 5 0 (by omega) (fun k hk => absurd hk (Nat.not_lt_zero k))
theorem wl_w5 (hg : ip_gk (lg_tbl, vwCl, Gr)) (ho : ip_old (lg_tbl, vwCl, Gr)) (h : mA b t q S) (hN : q + 2 ≤ t) {Q : Option Value → zS → Prop} (hy : (∀ k, k < 2 → b (q + k) = kw1.getD k 0) → Q (some (.int 1)) S) (hn : ¬ (∀ k, k < 2 → b (q + k) = kw1.getD k 0) → Q (some (.int 0)) S) : ∀ (j r : Nat), r + j = 2 → (∀ k, k < r → b (q + k) = kw1.getD k 0) → zW l Gr (zc n w) 168 M_Mo_isWord (d + 4) 35 [some (.ref 105), some (.ref 5), none, some (.int 1), some (.int (nI r))] [] S Q
  | 0, r, hr, hk => b_Mo_isWord_r5_35 (fun z => absurd z (by decide)) (fun _ => b_Mo_isWord_r5_39 hg ho (fun _ => b_Mo_isWord_r5_81 (hy (by rw [show 2 = r by omega]; exact hk))) (fun z => absurd (nI_le (a := 2) (b := r) (by omega) (by omega)) z))
  | j + 1, r, hr, hk => by
    have ht := h.2.2.2.2
    refine b_Mo_isWord_r5_35 (fun z => absurd z (by decide)) (fun _ => b_Mo_isWord_r5_39 hg ho (fun z => absurd z (nI_ge (a := r) (b := 2) (by omega) (by omega))) (fun _ => b_Mo_isWord_r5_48 hg ho (by rw [h.2.2.1, nI_add]; exact vp_in_nI (by omega) (by omega)) (vp_in_nI (by omega) (by omega)) (fun z => b_Mo_isWord_r5_73 (b_Mo_isWord_r5_74 (b_Mo_isWord_r5_35 (fun _ => b_Mo_isWord_r5_81 (hn (fun y => z ?_))) (fun y => absurd rfl y)))) (fun z => b_Mo_isWord_r5_69 (b_Mo_isWord_r5_74 ?_))))
    · rw [h.2.2.1, nI_add, nI_clamp (by omega), h.2.1 _ (by omega), y r (by omega), nI_clamp (by omega)]
      exact (show ∀ k, k < 2 → kw1.getD k 0 = ((oTx2 k &&& 255).toUInt32 % 65536).toInt32 by decide) r (by omega)
    · rw [h.2.2.1, nI_add, nI_clamp (by omega), h.2.1 _ (by omega), nI_clamp (by omega)] at z
      rw [show nI r + Int32.ofInt 1 = nI (r + 1) from nI_1 r]
      refine wl_w5 hg ho h hN hy hn j (r + 1) (by omega) (fun k hk' => ?_)
      by_cases e : k = r
      · subst e
        rw [z]
        exact ((show ∀ k, k < 2 → kw1.getD k 0 = ((oTx2 k &&& 255).toUInt32 % 65536).toInt32 by decide) k (by omega)).symm
      · exact hk k (by omega)
theorem wm_isW1 (hg : ip_gk (lg_tbl, vwCl, Gr)) (ho : ip_old (lg_tbl, vwCl, Gr)) (h : mA b t q S) : zMi l Gr (zc n w) 168 M_Mo_isWord (d + 4) [.ref 105, .ref 5] S (fun v S' => S' = S ∧ v = if wd b q (we b t q) = kw1 then 1 else 0) := by
  have hw := we_le (b := b) h.2.2.2.1
  have ht := h.2.2.2.2
  refine e_Mo_isWord_r5 (b_Mo_isWord_r5_0 hg (wm_wordEnd hg h) (fun v S' hv => ?_))
  obtain ⟨e, hv⟩ := hv
  rw [e, hv]
  have no : ¬ wd b q (we b t q) = kw1 → zW l Gr (zc n w) 168 M_Mo_isWord (d + 4) 30 [some (.ref 105), some (.ref 5), none, none, none] [] S (fun v S' => ∃ x, v = some (.int x) ∧ (x = 0 ∨ x = 1) ∧ S' = S ∧ x = if wd b q (we b t q) = kw1 then 1 else 0) := fun z => b_Mo_isWord_r5_30 (b_Mo_isWord_r5_31 (b_Mo_isWord_r5_35 (fun _ => b_Mo_isWord_r5_81 ⟨_, rfl, Or.inl rfl, rfl, (if_neg z).symm⟩) (fun y => absurd rfl y)))
  refine b_Mo_isWord_r5_4 hg ho (fun z => no (fun y => z ?_)) (fun z => ?_)
  · rw [wd_iff] at y
    rw [h.2.2.1, pk_sub hw.1, y.1]
    rfl
  · rw [h.2.2.1, pk_sub hw.1] at z
    have z1 : we b t q - q = 2 := (nI_eq (by omega) (by omega)).mp z
    have iff : wd b q (we b t q) = kw1 ↔ ∀ k, k < 2 → b (q + k) = kw1.getD k 0 := by
      rw [wd_iff]
      exact ⟨fun y => y.2, fun y => ⟨z1, y⟩⟩
    refine b_Mo_isWord_r5_18 (fun y => ?_) (fun _ => b_Mo_isWord_r5_26 (b_Mo_isWord_r5_31 ?_))
    · rw [h.2.2.1] at y
      have := (nI_leI (by omega) (by omega)).mp y
      omega
    · exact wl_w5 hg ho h (by omega) (fun y => ⟨_, rfl, Or.inr rfl, rfl, (if_pos (iff.mpr y)).symm⟩) (fun y => ⟨_, rfl, Or.inl rfl, rfl, (if_neg (fun z => y (iff.mp z))).symm⟩) 2 0 (by omega) (fun k hk => absurd hk (Nat.not_lt_zero k))
theorem wl_w6 (hg : ip_gk (lg_tbl, vwCl, Gr)) (ho : ip_old (lg_tbl, vwCl, Gr)) (h : mA b t q S) (hN : q + 3 ≤ t) {Q : Option Value → zS → Prop} (hy : (∀ k, k < 3 → b (q + k) = kw2.getD k 0) → Q (some (.int 1)) S) (hn : ¬ (∀ k, k < 3 → b (q + k) = kw2.getD k 0) → Q (some (.int 0)) S) : ∀ (j r : Nat), r + j = 3 → (∀ k, k < r → b (q + k) = kw2.getD k 0) → zW l Gr (zc n w) 168 M_Mo_isWord (d + 4) 35 [some (.ref 105), some (.ref 6), none, some (.int 1), some (.int (nI r))] [] S Q
  | 0, r, hr, hk => b_Mo_isWord_r6_35 (fun z => absurd z (by decide)) (fun _ => b_Mo_isWord_r6_39 hg ho (fun _ => b_Mo_isWord_r6_81 (hy (by rw [show 3 = r by omega]; exact hk))) (fun z => absurd (nI_le (a := 3) (b := r) (by omega) (by omega)) z))
  | j + 1, r, hr, hk => by
    have ht := h.2.2.2.2
    refine b_Mo_isWord_r6_35 (fun z => absurd z (by decide)) (fun _ => b_Mo_isWord_r6_39 hg ho (fun z => absurd z (nI_ge (a := r) (b := 3) (by omega) (by omega))) (fun _ => b_Mo_isWord_r6_48 hg ho (by rw [h.2.2.1, nI_add]; exact vp_in_nI (by omega) (by omega)) (vp_in_nI (by omega) (by omega)) (fun z => b_Mo_isWord_r6_73 (b_Mo_isWord_r6_74 (b_Mo_isWord_r6_35 (fun _ => b_Mo_isWord_r6_81 (hn (fun y => z ?_))) (fun y => absurd rfl y)))) (fun z => b_Mo_isWord_r6_69 (b_Mo_isWord_r6_74 ?_))))
    · rw [h.2.2.1, nI_add, nI_clamp (by omega), h.2.1 _ (by omega), y r (by omega), nI_clamp (by omega)]
      exact (show ∀ k, k < 3 → kw2.getD k 0 = ((oTx3 k &&& 255).toUInt32 % 65536).toInt32 by decide) r (by omega)
    · rw [h.2.2.1, nI_add, nI_clamp (by omega), h.2.1 _ (by omega), nI_clamp (by omega)] at z
      rw [show nI r + Int32.ofInt 1 = nI (r + 1) from nI_1 r]
      refine wl_w6 hg ho h hN hy hn j (r + 1) (by omega) (fun k hk' => ?_)
      by_cases e : k = r
      · subst e
        rw [z]
        exact ((show ∀ k, k < 3 → kw2.getD k 0 = ((oTx3 k &&& 255).toUInt32 % 65536).toInt32 by decide) k (by omega)).symm
      · exact hk k (by omega)
theorem wm_isW2 (hg : ip_gk (lg_tbl, vwCl, Gr)) (ho : ip_old (lg_tbl, vwCl, Gr)) (h : mA b t q S) : zMi l Gr (zc n w) 168 M_Mo_isWord (d + 4) [.ref 105, .ref 6] S (fun v S' => S' = S ∧ v = if wd b q (we b t q) = kw2 then 1 else 0) := by
  have hw := we_le (b := b) h.2.2.2.1
  have ht := h.2.2.2.2
  refine e_Mo_isWord_r6 (b_Mo_isWord_r6_0 hg (wm_wordEnd hg h) (fun v S' hv => ?_))
  obtain ⟨e, hv⟩ := hv
  rw [e, hv]
  have no : ¬ wd b q (we b t q) = kw2 → zW l Gr (zc n w) 168 M_Mo_isWord (d + 4) 30 [some (.ref 105), some (.ref 6), none, none, none] [] S (fun v S' => ∃ x, v = some (.int x) ∧ (x = 0 ∨ x = 1) ∧ S' = S ∧ x = if wd b q (we b t q) = kw2 then 1 else 0) := fun z => b_Mo_isWord_r6_30 (b_Mo_isWord_r6_31 (b_Mo_isWord_r6_35 (fun _ => b_Mo_isWord_r6_81 ⟨_, rfl, Or.inl rfl, rfl, (if_neg z).symm⟩) (fun y => absurd rfl y)))
  refine b_Mo_isWord_r6_4 hg ho (fun z => no (fun y => z ?_)) (fun z => ?_)
  · rw [wd_iff] at y
    rw [h.2.2.1, pk_sub hw.1, y.1]
    rfl
  · rw [h.2.2.1, pk_sub hw.1] at z
    have z1 : we b t q - q = 3 := (nI_eq (by omega) (by omega)).mp z
    have iff : wd b q (we b t q) = kw2 ↔ ∀ k, k < 3 → b (q + k) = kw2.getD k 0 := by
      rw [wd_iff]
      exact ⟨fun y => y.2, fun y => ⟨z1, y⟩⟩
    refine b_Mo_isWord_r6_18 (fun y => ?_) (fun _ => b_Mo_isWord_r6_26 (b_Mo_isWord_r6_31 ?_))
    · rw [h.2.2.1] at y
      have := (nI_leI (by omega) (by omega)).mp y
      omega
    · exact wl_w6 hg ho h (by omega) (fun y => ⟨_, rfl, Or.inr rfl, rfl, (if_pos (iff.mpr y)).symm⟩) (fun y => ⟨_, rfl, Or.inl rfl, rfl, (if_neg (fun z => y (iff.mp z))).symm⟩) 3 0 (by omega) (fun k hk => absurd hk (Nat.not_lt_zero k))
theorem wl_w7 (hg : ip_gk (lg_tbl, vwCl, Gr)) (ho : ip_old (lg_tbl, vwCl, Gr)) (h : mA b t q S) (hN : q + 3 ≤ t) {Q : Option Value → zS → Prop} (hy : (∀ k, k < 3 → b (q + k) = kw3.getD k 0) → Q (some (.int 1)) S) (hn : ¬ (∀ k, k < 3 → b (q + k) = kw3.getD k 0) → Q (some (.int 0)) S) : ∀ (j r : Nat), r + j = 3 → (∀ k, k < r → b (q + k) = kw3.getD k 0) → zW l Gr (zc n w) 168 M_Mo_isWord (d + 4) 35 [some (.ref 105), some (.ref 7), none, some (.int 1), some (.int (nI r))] [] S Q
  | 0, r, hr, hk => b_Mo_isWord_r7_35 (fun z => absurd z (by decide)) (fun _ => b_Mo_isWord_r7_39 hg ho (fun _ => b_Mo_isWord_r7_81 (hy (by rw [show 3 = r by omega]; exact hk))) (fun z => absurd (nI_le (a := 3) (b := r) (by omega) (by omega)) z))
  | j + 1, r, hr, hk => by
    have ht := h.2.2.2.2
    refine b_Mo_isWord_r7_35 (fun z => absurd z (by decide)) (fun _ => b_Mo_isWord_r7_39 hg ho (fun z => absurd z (nI_ge (a := r) (b := 3) (by omega) (by omega))) (fun _ => b_Mo_isWord_r7_48 hg ho (by rw [h.2.2.1, nI_add]; exact vp_in_nI (by omega) (by omega)) (vp_in_nI (by omega) (by omega)) (fun z => b_Mo_isWord_r7_73 (b_Mo_isWord_r7_74 (b_Mo_isWord_r7_35 (fun _ => b_Mo_isWord_r7_81 (hn (fun y => z ?_))) (fun y => absurd rfl y)))) (fun z => b_Mo_isWord_r7_69 (b_Mo_isWord_r7_74 ?_))))
    · rw [h.2.2.1, nI_add, nI_clamp (by omega), h.2.1 _ (by omega), y r (by omega), nI_clamp (by omega)]
      exact (show ∀ k, k < 3 → kw3.getD k 0 = ((oTx4 k &&& 255).toUInt32 % 65536).toInt32 by decide) r (by omega)
    · rw [h.2.2.1, nI_add, nI_clamp (by omega), h.2.1 _ (by omega), nI_clamp (by omega)] at z
      rw [show nI r + Int32.ofInt 1 = nI (r + 1) from nI_1 r]
      refine wl_w7 hg ho h hN hy hn j (r + 1) (by omega) (fun k hk' => ?_)
      by_cases e : k = r
      · subst e
        rw [z]
        exact ((show ∀ k, k < 3 → kw3.getD k 0 = ((oTx4 k &&& 255).toUInt32 % 65536).toInt32 by decide) k (by omega)).symm
      · exact hk k (by omega)
theorem wm_isW3 (hg : ip_gk (lg_tbl, vwCl, Gr)) (ho : ip_old (lg_tbl, vwCl, Gr)) (h : mA b t q S) : zMi l Gr (zc n w) 168 M_Mo_isWord (d + 4) [.ref 105, .ref 7] S (fun v S' => S' = S ∧ v = if wd b q (we b t q) = kw3 then 1 else 0) := by
  have hw := we_le (b := b) h.2.2.2.1
  have ht := h.2.2.2.2
  refine e_Mo_isWord_r7 (b_Mo_isWord_r7_0 hg (wm_wordEnd hg h) (fun v S' hv => ?_))
  obtain ⟨e, hv⟩ := hv
  rw [e, hv]
  have no : ¬ wd b q (we b t q) = kw3 → zW l Gr (zc n w) 168 M_Mo_isWord (d + 4) 30 [some (.ref 105), some (.ref 7), none, none, none] [] S (fun v S' => ∃ x, v = some (.int x) ∧ (x = 0 ∨ x = 1) ∧ S' = S ∧ x = if wd b q (we b t q) = kw3 then 1 else 0) := fun z => b_Mo_isWord_r7_30 (b_Mo_isWord_r7_31 (b_Mo_isWord_r7_35 (fun _ => b_Mo_isWord_r7_81 ⟨_, rfl, Or.inl rfl, rfl, (if_neg z).symm⟩) (fun y => absurd rfl y)))
  refine b_Mo_isWord_r7_4 hg ho (fun z => no (fun y => z ?_)) (fun z => ?_)
  · rw [wd_iff] at y
    rw [h.2.2.1, pk_sub hw.1, y.1]
    rfl
  · rw [h.2.2.1, pk_sub hw.1] at z
    have z1 : we b t q - q = 3 := (nI_eq (by omega) (by omega)).mp z
    have iff : wd b q (we b t q) = kw3 ↔ ∀ k, k < 3 → b (q + k) = kw3.getD k 0 := by
      rw [wd_iff]
      exact ⟨fun y => y.2, fun y => ⟨z1, y⟩⟩
    refine b_Mo_isWord_r7_18 (fun y => ?_) (fun _ => b_Mo_isWord_r7_26 (b_Mo_isWord_r7_31 ?_))
    · rw [h.2.2.1] at y
      have := (nI_leI (by omega) (by omega)).mp y
      omega
    · exact wl_w7 hg ho h (by omega) (fun y => ⟨_, rfl, Or.inr rfl, rfl, (if_pos (iff.mpr y)).symm⟩) (fun y => ⟨_, rfl, Or.inl rfl, rfl, (if_neg (fun z => y (iff.mp z))).symm⟩) 3 0 (by omega) (fun k hk => absurd hk (Nat.not_lt_zero k))
theorem wl_w8 (hg : ip_gk (lg_tbl, vwCl, Gr)) (ho : ip_old (lg_tbl, vwCl, Gr)) (h : mA b t q S) (hN : q + 3 ≤ t) {Q : Option Value → zS → Prop} (hy : (∀ k, k < 3 → b (q + k) = kw4.getD k 0) → Q (some (.int 1)) S) (hn : ¬ (∀ k, k < 3 → b (q + k) = kw4.getD k 0) → Q (some (.int 0)) S) : ∀ (j r : Nat), r + j = 3 → (∀ k, k < r → b (q + k) = kw4.getD k 0) → zW l Gr (zc n w) 168 M_Mo_isWord (d + 4) 35 [some (.ref 105), some (.ref 8), none, some (.int 1), some (.int (nI r))] [] S Q
  | 0, r, hr, hk => b_Mo_isWord_r8_35 (fun z => absurd z (by decide)) (fun _ => b_Mo_isWord_r8_39 hg ho (fun _ => b_Mo_isWord_r8_81 (hy (by rw [show 3 = r by omega]; exact hk))) (fun z => absurd (nI_le (a := 3) (b := r) (by omega) (by omega)) z))
  | j + 1, r, hr, hk => by
    have ht := h.2.2.2.2
    refine b_Mo_isWord_r8_35 (fun z => absurd z (by decide)) (fun _ => b_Mo_isWord_r8_39 hg ho (fun z => absurd z (nI_ge (a := r) (b := 3) (by omega) (by omega))) (fun _ => b_Mo_isWord_r8_48 hg ho (by rw [h.2.2.1, nI_add]; exact vp_in_nI (by omega) (by omega)) (vp_in_nI (by omega) (by omega)) (fun z => b_Mo_isWord_r8_73 (b_Mo_isWord_r8_74 (b_Mo_isWord_r8_35 (fun _ => b_Mo_isWord_r8_81 (hn (fun y => z ?_))) (fun y => absurd rfl y)))) (fun z => b_Mo_isWord_r8_69 (b_Mo_isWord_r8_74 ?_))))
    · rw [h.2.2.1, nI_add, nI_clamp (by omega), h.2.1 _ (by omega), y r (by omega), nI_clamp (by omega)]
      exact (show ∀ k, k < 3 → kw4.getD k 0 = ((oTx5 k &&& 255).toUInt32 % 65536).toInt32 by decide) r (by omega)
    · rw [h.2.2.1, nI_add, nI_clamp (by omega), h.2.1 _ (by omega), nI_clamp (by omega)] at z
      rw [show nI r + Int32.ofInt 1 = nI (r + 1) from nI_1 r]
      refine wl_w8 hg ho h hN hy hn j (r + 1) (by omega) (fun k hk' => ?_)
      by_cases e : k = r
      · subst e
        rw [z]
        exact ((show ∀ k, k < 3 → kw4.getD k 0 = ((oTx5 k &&& 255).toUInt32 % 65536).toInt32 by decide) k (by omega)).symm
      · exact hk k (by omega)
theorem wm_isW4 (hg : ip_gk (lg_tbl, vwCl, Gr)) (ho : ip_old (lg_tbl, vwCl, Gr)) (h : mA b t q S) : zMi l Gr (zc n w) 168 M_Mo_isWord (d + 4) [.ref 105, .ref 8] S (fun v S' => S' = S ∧ v = if wd b q (we b t q) = kw4 then 1 else 0) := by
  have hw := we_le (b := b) h.2.2.2.1
  have ht := h.2.2.2.2
  refine e_Mo_isWord_r8 (b_Mo_isWord_r8_0 hg (wm_wordEnd hg h) (fun v S' hv => ?_))
  obtain ⟨e, hv⟩ := hv
  rw [e, hv]
  have no : ¬ wd b q (we b t q) = kw4 → zW l Gr (zc n w) 168 M_Mo_isWord (d + 4) 30 [some (.ref 105), some (.ref 8), none, none, none] [] S (fun v S' => ∃ x, v = some (.int x) ∧ (x = 0 ∨ x = 1) ∧ S' = S ∧ x = if wd b q (we b t q) = kw4 then 1 else 0) := fun z => b_Mo_isWord_r8_30 (b_Mo_isWord_r8_31 (b_Mo_isWord_r8_35 (fun _ => b_Mo_isWord_r8_81 ⟨_, rfl, Or.inl rfl, rfl, (if_neg z).symm⟩) (fun y => absurd rfl y)))
  refine b_Mo_isWord_r8_4 hg ho (fun z => no (fun y => z ?_)) (fun z => ?_)
  · rw [wd_iff] at y
    rw [h.2.2.1, pk_sub hw.1, y.1]
    rfl
  · rw [h.2.2.1, pk_sub hw.1] at z
    have z1 : we b t q - q = 3 := (nI_eq (by omega) (by omega)).mp z
    have iff : wd b q (we b t q) = kw4 ↔ ∀ k, k < 3 → b (q + k) = kw4.getD k 0 := by
      rw [wd_iff]
      exact ⟨fun y => y.2, fun y => ⟨z1, y⟩⟩
    refine b_Mo_isWord_r8_18 (fun y => ?_) (fun _ => b_Mo_isWord_r8_26 (b_Mo_isWord_r8_31 ?_))
    · rw [h.2.2.1] at y
      have := (nI_leI (by omega) (by omega)).mp y
      omega
    · exact wl_w8 hg ho h (by omega) (fun y => ⟨_, rfl, Or.inr rfl, rfl, (if_pos (iff.mpr y)).symm⟩) (fun y => ⟨_, rfl, Or.inl rfl, rfl, (if_neg (fun z => y (iff.mp z))).symm⟩) 3 0 (by omega) (fun k hk => absurd hk (Nat.not_lt_zero k))
theorem wl_w9 (hg : ip_gk (lg_tbl, vwCl, Gr)) (ho : ip_old (lg_tbl, vwCl, Gr)) (h : mA b t q S) (hN : q + 2 ≤ t) {Q : Option Value → zS → Prop} (hy : (∀ k, k < 2 → b (q + k) = kw5.getD k 0) → Q (some (.int 1)) S) (hn : ¬ (∀ k, k < 2 → b (q + k) = kw5.getD k 0) → Q (some (.int 0)) S) : ∀ (j r : Nat), r + j = 2 → (∀ k, k < r → b (q + k) = kw5.getD k 0) → zW l Gr (zc n w) 168 M_Mo_isWord (d + 4) 35 [some (.ref 105), some (.ref 9), none, some (.int 1), some (.int (nI r))] [] S Q
  | 0, r, hr, hk => b_Mo_isWord_r9_35 (fun z => absurd z (by decide)) (fun _ => b_Mo_isWord_r9_39 hg ho (fun _ => b_Mo_isWord_r9_81 (hy (by rw [show 2 = r by omega]; exact hk))) (fun z => absurd (nI_le (a := 2) (b := r) (by omega) (by omega)) z))
  | j + 1, r, hr, hk => by
    have ht := h.2.2.2.2
    refine b_Mo_isWord_r9_35 (fun z => absurd z (by decide)) (fun _ => b_Mo_isWord_r9_39 hg ho (fun z => absurd z (nI_ge (a := r) (b := 2) (by omega) (by omega))) (fun _ => b_Mo_isWord_r9_48 hg ho (by rw [h.2.2.1, nI_add]; exact vp_in_nI (by omega) (by omega)) (vp_in_nI (by omega) (by omega)) (fun z => b_Mo_isWord_r9_73 (b_Mo_isWord_r9_74 (b_Mo_isWord_r9_35 (fun _ => b_Mo_isWord_r9_81 (hn (fun y => z ?_))) (fun y => absurd rfl y)))) (fun z => b_Mo_isWord_r9_69 (b_Mo_isWord_r9_74 ?_))))
    · rw [h.2.2.1, nI_add, nI_clamp (by omega), h.2.1 _ (by omega), y r (by omega), nI_clamp (by omega)]
      exact (show ∀ k, k < 2 → kw5.getD k 0 = ((oTx6 k &&& 255).toUInt32 % 65536).toInt32 by decide) r (by omega)
    · rw [h.2.2.1, nI_add, nI_clamp (by omega), h.2.1 _ (by omega), nI_clamp (by omega)] at z
      rw [show nI r + Int32.ofInt 1 = nI (r + 1) from nI_1 r]
      refine wl_w9 hg ho h hN hy hn j (r + 1) (by omega) (fun k hk' => ?_)
      by_cases e : k = r
      · subst e
        rw [z]
        exact ((show ∀ k, k < 2 → kw5.getD k 0 = ((oTx6 k &&& 255).toUInt32 % 65536).toInt32 by decide) k (by omega)).symm
      · exact hk k (by omega)
theorem wm_isW5 (hg : ip_gk (lg_tbl, vwCl, Gr)) (ho : ip_old (lg_tbl, vwCl, Gr)) (h : mA b t q S) : zMi l Gr (zc n w) 168 M_Mo_isWord (d + 4) [.ref 105, .ref 9] S (fun v S' => S' = S ∧ v = if wd b q (we b t q) = kw5 then 1 else 0) := by
  have hw := we_le (b := b) h.2.2.2.1
  have ht := h.2.2.2.2
  refine e_Mo_isWord_r9 (b_Mo_isWord_r9_0 hg (wm_wordEnd hg h) (fun v S' hv => ?_))
  obtain ⟨e, hv⟩ := hv
  rw [e, hv]
  have no : ¬ wd b q (we b t q) = kw5 → zW l Gr (zc n w) 168 M_Mo_isWord (d + 4) 30 [some (.ref 105), some (.ref 9), none, none, none] [] S (fun v S' => ∃ x, v = some (.int x) ∧ (x = 0 ∨ x = 1) ∧ S' = S ∧ x = if wd b q (we b t q) = kw5 then 1 else 0) := fun z => b_Mo_isWord_r9_30 (b_Mo_isWord_r9_31 (b_Mo_isWord_r9_35 (fun _ => b_Mo_isWord_r9_81 ⟨_, rfl, Or.inl rfl, rfl, (if_neg z).symm⟩) (fun y => absurd rfl y)))
  refine b_Mo_isWord_r9_4 hg ho (fun z => no (fun y => z ?_)) (fun z => ?_)
  · rw [wd_iff] at y
    rw [h.2.2.1, pk_sub hw.1, y.1]
    rfl
  · rw [h.2.2.1, pk_sub hw.1] at z
    have z1 : we b t q - q = 2 := (nI_eq (by omega) (by omega)).mp z
    have iff : wd b q (we b t q) = kw5 ↔ ∀ k, k < 2 → b (q + k) = kw5.getD k 0 := by
      rw [wd_iff]
      exact ⟨fun y => y.2, fun y => ⟨z1, y⟩⟩
    refine b_Mo_isWord_r9_18 (fun y => ?_) (fun _ => b_Mo_isWord_r9_26 (b_Mo_isWord_r9_31 ?_))
    · rw [h.2.2.1] at y
      have := (nI_leI (by omega) (by omega)).mp y
      omega
    · exact wl_w9 hg ho h (by omega) (fun y => ⟨_, rfl, Or.inr rfl, rfl, (if_pos (iff.mpr y)).symm⟩) (fun y => ⟨_, rfl, Or.inl rfl, rfl, (if_neg (fun z => y (iff.mp z))).symm⟩) 2 0 (by omega) (fun k hk => absurd hk (Nat.not_lt_zero k))
theorem wl_w10 (hg : ip_gk (lg_tbl, vwCl, Gr)) (ho : ip_old (lg_tbl, vwCl, Gr)) (h : mA b t q S) (hN : q + 2 ≤ t) {Q : Option Value → zS → Prop} (hy : (∀ k, k < 2 → b (q + k) = kw6.getD k 0) → Q (some (.int 1)) S) (hn : ¬ (∀ k, k < 2 → b (q + k) = kw6.getD k 0) → Q (some (.int 0)) S) : ∀ (j r : Nat), r + j = 2 → (∀ k, k < r → b (q + k) = kw6.getD k 0) → zW l Gr (zc n w) 168 M_Mo_isWord (d + 4) 35 [some (.ref 105), some (.ref 10), none, some (.int 1), some (.int (nI r))] [] S Q
  | 0, r, hr, hk => b_Mo_isWord_r10_35 (fun z => absurd z (by decide)) (fun _ => b_Mo_isWord_r10_39 hg ho (fun _ => b_Mo_isWord_r10_81 (hy (by rw [show 2 = r by omega]; exact hk))) (fun z => absurd (nI_le (a := 2) (b := r) (by omega) (by omega)) z))
  | j + 1, r, hr, hk => by
    have ht := h.2.2.2.2
    refine b_Mo_isWord_r10_35 (fun z => absurd z (by decide)) (fun _ => b_Mo_isWord_r10_39 hg ho (fun z => absurd z (nI_ge (a := r) (b := 2) (by omega) (by omega))) (fun _ => b_Mo_isWord_r10_48 hg ho (by rw [h.2.2.1, nI_add]; exact vp_in_nI (by omega) (by omega)) (vp_in_nI (by omega) (by omega)) (fun z => b_Mo_isWord_r10_73 (b_Mo_isWord_r10_74 (b_Mo_isWord_r10_35 (fun _ => b_Mo_isWord_r10_81 (hn (fun y => z ?_))) (fun y => absurd rfl y)))) (fun z => b_Mo_isWord_r10_69 (b_Mo_isWord_r10_74 ?_))))
    · rw [h.2.2.1, nI_add, nI_clamp (by omega), h.2.1 _ (by omega), y r (by omega), nI_clamp (by omega)]
      exact (show ∀ k, k < 2 → kw6.getD k 0 = ((oTx7 k &&& 255).toUInt32 % 65536).toInt32 by decide) r (by omega)
    · rw [h.2.2.1, nI_add, nI_clamp (by omega), h.2.1 _ (by omega), nI_clamp (by omega)] at z
      rw [show nI r + Int32.ofInt 1 = nI (r + 1) from nI_1 r]
      refine wl_w10 hg ho h hN hy hn j (r + 1) (by omega) (fun k hk' => ?_)
      by_cases e : k = r
      · subst e
        rw [z]
        exact ((show ∀ k, k < 2 → kw6.getD k 0 = ((oTx7 k &&& 255).toUInt32 % 65536).toInt32 by decide) k (by omega)).symm
      · exact hk k (by omega)
theorem wm_isW6 (hg : ip_gk (lg_tbl, vwCl, Gr)) (ho : ip_old (lg_tbl, vwCl, Gr)) (h : mA b t q S) : zMi l Gr (zc n w) 168 M_Mo_isWord (d + 4) [.ref 105, .ref 10] S (fun v S' => S' = S ∧ v = if wd b q (we b t q) = kw6 then 1 else 0) := by
  have hw := we_le (b := b) h.2.2.2.1
  have ht := h.2.2.2.2
  refine e_Mo_isWord_r10 (b_Mo_isWord_r10_0 hg (wm_wordEnd hg h) (fun v S' hv => ?_))
  obtain ⟨e, hv⟩ := hv
  rw [e, hv]
  have no : ¬ wd b q (we b t q) = kw6 → zW l Gr (zc n w) 168 M_Mo_isWord (d + 4) 30 [some (.ref 105), some (.ref 10), none, none, none] [] S (fun v S' => ∃ x, v = some (.int x) ∧ (x = 0 ∨ x = 1) ∧ S' = S ∧ x = if wd b q (we b t q) = kw6 then 1 else 0) := fun z => b_Mo_isWord_r10_30 (b_Mo_isWord_r10_31 (b_Mo_isWord_r10_35 (fun _ => b_Mo_isWord_r10_81 ⟨_, rfl, Or.inl rfl, rfl, (if_neg z).symm⟩) (fun y => absurd rfl y)))
  refine b_Mo_isWord_r10_4 hg ho (fun z => no (fun y => z ?_)) (fun z => ?_)
  · rw [wd_iff] at y
    rw [h.2.2.1, pk_sub hw.1, y.1]
    rfl
  · rw [h.2.2.1, pk_sub hw.1] at z
    have z1 : we b t q - q = 2 := (nI_eq (by omega) (by omega)).mp z
    have iff : wd b q (we b t q) = kw6 ↔ ∀ k, k < 2 → b (q + k) = kw6.getD k 0 := by
      rw [wd_iff]
      exact ⟨fun y => y.2, fun y => ⟨z1, y⟩⟩
    refine b_Mo_isWord_r10_18 (fun y => ?_) (fun _ => b_Mo_isWord_r10_26 (b_Mo_isWord_r10_31 ?_))
    · rw [h.2.2.1] at y
      have := (nI_leI (by omega) (by omega)).mp y
      omega
    · exact wl_w10 hg ho h (by omega) (fun y => ⟨_, rfl, Or.inr rfl, rfl, (if_pos (iff.mpr y)).symm⟩) (fun y => ⟨_, rfl, Or.inl rfl, rfl, (if_neg (fun z => y (iff.mp z))).symm⟩) 2 0 (by omega) (fun k hk => absurd hk (Nat.not_lt_zero k))
theorem wl_w11 (hg : ip_gk (lg_tbl, vwCl, Gr)) (ho : ip_old (lg_tbl, vwCl, Gr)) (h : mA b t q S) (hN : q + 4 ≤ t) {Q : Option Value → zS → Prop} (hy : (∀ k, k < 4 → b (q + k) = kw7.getD k 0) → Q (some (.int 1)) S) (hn : ¬ (∀ k, k < 4 → b (q + k) = kw7.getD k 0) → Q (some (.int 0)) S) : ∀ (j r : Nat), r + j = 4 → (∀ k, k < r → b (q + k) = kw7.getD k 0) → zW l Gr (zc n w) 168 M_Mo_isWord (d + 4) 35 [some (.ref 105), some (.ref 11), none, some (.int 1), some (.int (nI r))] [] S Q
  | 0, r, hr, hk => b_Mo_isWord_r11_35 (fun z => absurd z (by decide)) (fun _ => b_Mo_isWord_r11_39 hg ho (fun _ => b_Mo_isWord_r11_81 (hy (by rw [show 4 = r by omega]; exact hk))) (fun z => absurd (nI_le (a := 4) (b := r) (by omega) (by omega)) z))
  | j + 1, r, hr, hk => by
    have ht := h.2.2.2.2
    refine b_Mo_isWord_r11_35 (fun z => absurd z (by decide)) (fun _ => b_Mo_isWord_r11_39 hg ho (fun z => absurd z (nI_ge (a := r) (b := 4) (by omega) (by omega))) (fun _ => b_Mo_isWord_r11_48 hg ho (by rw [h.2.2.1, nI_add]; exact vp_in_nI (by omega) (by omega)) (vp_in_nI (by omega) (by omega)) (fun z => b_Mo_isWord_r11_73 (b_Mo_isWord_r11_74 (b_Mo_isWord_r11_35 (fun _ => b_Mo_isWord_r11_81 (hn (fun y => z ?_))) (fun y => absurd rfl y)))) (fun z => b_Mo_isWord_r11_69 (b_Mo_isWord_r11_74 ?_))))
    · rw [h.2.2.1, nI_add, nI_clamp (by omega), h.2.1 _ (by omega), y r (by omega), nI_clamp (by omega)]
      exact (show ∀ k, k < 4 → kw7.getD k 0 = ((oTx8 k &&& 255).toUInt32 % 65536).toInt32 by decide) r (by omega)
    · rw [h.2.2.1, nI_add, nI_clamp (by omega), h.2.1 _ (by omega), nI_clamp (by omega)] at z
      rw [show nI r + Int32.ofInt 1 = nI (r + 1) from nI_1 r]
      refine wl_w11 hg ho h hN hy hn j (r + 1) (by omega) (fun k hk' => ?_)
      by_cases e : k = r
      · subst e
        rw [z]
        exact ((show ∀ k, k < 4 → kw7.getD k 0 = ((oTx8 k &&& 255).toUInt32 % 65536).toInt32 by decide) k (by omega)).symm
      · exact hk k (by omega)
theorem wm_isW7 (hg : ip_gk (lg_tbl, vwCl, Gr)) (ho : ip_old (lg_tbl, vwCl, Gr)) (h : mA b t q S) : zMi l Gr (zc n w) 168 M_Mo_isWord (d + 4) [.ref 105, .ref 11] S (fun v S' => S' = S ∧ v = if wd b q (we b t q) = kw7 then 1 else 0) := by
  have hw := we_le (b := b) h.2.2.2.1
  have ht := h.2.2.2.2
  refine e_Mo_isWord_r11 (b_Mo_isWord_r11_0 hg (wm_wordEnd hg h) (fun v S' hv => ?_))
  obtain ⟨e, hv⟩ := hv
  rw [e, hv]
  have no : ¬ wd b q (we b t q) = kw7 → zW l Gr (zc n w) 168 M_Mo_isWord (d + 4) 30 [some (.ref 105), some (.ref 11), none, none, none] [] S (fun v S' => ∃ x, v = some (.int x) ∧ (x = 0 ∨ x = 1) ∧ S' = S ∧ x = if wd b q (we b t q) = kw7 then 1 else 0) := fun z => b_Mo_isWord_r11_30 (b_Mo_isWord_r11_31 (b_Mo_isWord_r11_35 (fun _ => b_Mo_isWord_r11_81 ⟨_, rfl, Or.inl rfl, rfl, (if_neg z).symm⟩) (fun y => absurd rfl y)))
  refine b_Mo_isWord_r11_4 hg ho (fun z => no (fun y => z ?_)) (fun z => ?_)
  · rw [wd_iff] at y
    rw [h.2.2.1, pk_sub hw.1, y.1]
    rfl
  · rw [h.2.2.1, pk_sub hw.1] at z
    have z1 : we b t q - q = 4 := (nI_eq (by omega) (by omega)).mp z
    have iff : wd b q (we b t q) = kw7 ↔ ∀ k, k < 4 → b (q + k) = kw7.getD k 0 := by
      rw [wd_iff]
      exact ⟨fun y => y.2, fun y => ⟨z1, y⟩⟩
    refine b_Mo_isWord_r11_18 (fun y => ?_) (fun _ => b_Mo_isWord_r11_26 (b_Mo_isWord_r11_31 ?_))
    · rw [h.2.2.1] at y
      have := (nI_leI (by omega) (by omega)).mp y
      omega
    · exact wl_w11 hg ho h (by omega) (fun y => ⟨_, rfl, Or.inr rfl, rfl, (if_pos (iff.mpr y)).symm⟩) (fun y => ⟨_, rfl, Or.inl rfl, rfl, (if_neg (fun z => y (iff.mp z))).symm⟩) 4 0 (by omega) (fun k hk => absurd hk (Nat.not_lt_zero k))
theorem wl_w12 (hg : ip_gk (lg_tbl, vwCl, Gr)) (ho : ip_old (lg_tbl, vwCl, Gr)) (h : mA b t q S) (hN : q + 6 ≤ t) {Q : Option Value → zS → Prop} (hy : (∀ k, k < 6 → b (q + k) = kw8.getD k 0) → Q (some (.int 1)) S) (hn : ¬ (∀ k, k < 6 → b (q + k) = kw8.getD k 0) → Q (some (.int 0)) S) : ∀ (j r : Nat), r + j = 6 → (∀ k, k < r → b (q + k) = kw8.getD k 0) → zW l Gr (zc n w) 168 M_Mo_isWord (d + 4) 35 [some (.ref 105), some (.ref 12), none, some (.int 1), some (.int (nI r))] [] S Q
  | 0, r, hr, hk => b_Mo_isWord_r12_35 (fun z => absurd z (by decide)) (fun _ => b_Mo_isWord_r12_39 hg ho (fun _ => b_Mo_isWord_r12_81 (hy (by rw [show 6 = r by omega]; exact hk))) (fun z => absurd (nI_le (a := 6) (b := r) (by omega) (by omega)) z))
  | j + 1, r, hr, hk => by
    have ht := h.2.2.2.2
    refine b_Mo_isWord_r12_35 (fun z => absurd z (by decide)) (fun _ => b_Mo_isWord_r12_39 hg ho (fun z => absurd z (nI_ge (a := r) (b := 6) (by omega) (by omega))) (fun _ => b_Mo_isWord_r12_48 hg ho (by rw [h.2.2.1, nI_add]; exact vp_in_nI (by omega) (by omega)) (vp_in_nI (by omega) (by omega)) (fun z => b_Mo_isWord_r12_73 (b_Mo_isWord_r12_74 (b_Mo_isWord_r12_35 (fun _ => b_Mo_isWord_r12_81 (hn (fun y => z ?_))) (fun y => absurd rfl y)))) (fun z => b_Mo_isWord_r12_69 (b_Mo_isWord_r12_74 ?_))))
    · rw [h.2.2.1, nI_add, nI_clamp (by omega), h.2.1 _ (by omega), y r (by omega), nI_clamp (by omega)]
      exact (show ∀ k, k < 6 → kw8.getD k 0 = ((oTx9 k &&& 255).toUInt32 % 65536).toInt32 by decide) r (by omega)
    · rw [h.2.2.1, nI_add, nI_clamp (by omega), h.2.1 _ (by omega), nI_clamp (by omega)] at z
      rw [show nI r + Int32.ofInt 1 = nI (r + 1) from nI_1 r]
      refine wl_w12 hg ho h hN hy hn j (r + 1) (by omega) (fun k hk' => ?_)
      by_cases e : k = r
      · subst e
        rw [z]
        exact ((show ∀ k, k < 6 → kw8.getD k 0 = ((oTx9 k &&& 255).toUInt32 % 65536).toInt32 by decide) k (by omega)).symm
      · exact hk k (by omega)
theorem wm_isW8 (hg : ip_gk (lg_tbl, vwCl, Gr)) (ho : ip_old (lg_tbl, vwCl, Gr)) (h : mA b t q S) : zMi l Gr (zc n w) 168 M_Mo_isWord (d + 4) [.ref 105, .ref 12] S (fun v S' => S' = S ∧ v = if wd b q (we b t q) = kw8 then 1 else 0) := by
  have hw := we_le (b := b) h.2.2.2.1
  have ht := h.2.2.2.2
  refine e_Mo_isWord_r12 (b_Mo_isWord_r12_0 hg (wm_wordEnd hg h) (fun v S' hv => ?_))
  obtain ⟨e, hv⟩ := hv
  rw [e, hv]
  have no : ¬ wd b q (we b t q) = kw8 → zW l Gr (zc n w) 168 M_Mo_isWord (d + 4) 30 [some (.ref 105), some (.ref 12), none, none, none] [] S (fun v S' => ∃ x, v = some (.int x) ∧ (x = 0 ∨ x = 1) ∧ S' = S ∧ x = if wd b q (we b t q) = kw8 then 1 else 0) := fun z => b_Mo_isWord_r12_30 (b_Mo_isWord_r12_31 (b_Mo_isWord_r12_35 (fun _ => b_Mo_isWord_r12_81 ⟨_, rfl, Or.inl rfl, rfl, (if_neg z).symm⟩) (fun y => absurd rfl y)))
  refine b_Mo_isWord_r12_4 hg ho (fun z => no (fun y => z ?_)) (fun z => ?_)
  · rw [wd_iff] at y
    rw [h.2.2.1, pk_sub hw.1, y.1]
    rfl
  · rw [h.2.2.1, pk_sub hw.1] at z
    have z1 : we b t q - q = 6 := (nI_eq (by omega) (by omega)).mp z
    have iff : wd b q (we b t q) = kw8 ↔ ∀ k, k < 6 → b (q + k) = kw8.getD k 0 := by
      rw [wd_iff]
      exact ⟨fun y => y.2, fun y => ⟨z1, y⟩⟩
    refine b_Mo_isWord_r12_18 (fun y => ?_) (fun _ => b_Mo_isWord_r12_26 (b_Mo_isWord_r12_31 ?_))
    · rw [h.2.2.1] at y
      have := (nI_leI (by omega) (by omega)).mp y
      omega
    · exact wl_w12 hg ho h (by omega) (fun y => ⟨_, rfl, Or.inr rfl, rfl, (if_pos (iff.mpr y)).symm⟩) (fun y => ⟨_, rfl, Or.inl rfl, rfl, (if_neg (fun z => y (iff.mp z))).symm⟩) 6 0 (by omega) (fun k hk => absurd hk (Nat.not_lt_zero k))
theorem wl_w13 (hg : ip_gk (lg_tbl, vwCl, Gr)) (ho : ip_old (lg_tbl, vwCl, Gr)) (h : mA b t q S) (hN : q + 3 ≤ t) {Q : Option Value → zS → Prop} (hy : (∀ k, k < 3 → b (q + k) = kw9.getD k 0) → Q (some (.int 1)) S) (hn : ¬ (∀ k, k < 3 → b (q + k) = kw9.getD k 0) → Q (some (.int 0)) S) : ∀ (j r : Nat), r + j = 3 → (∀ k, k < r → b (q + k) = kw9.getD k 0) → zW l Gr (zc n w) 168 M_Mo_isWord (d + 4) 35 [some (.ref 105), some (.ref 13), none, some (.int 1), some (.int (nI r))] [] S Q
  | 0, r, hr, hk => b_Mo_isWord_r13_35 (fun z => absurd z (by decide)) (fun _ => b_Mo_isWord_r13_39 hg ho (fun _ => b_Mo_isWord_r13_81 (hy (by rw [show 3 = r by omega]; exact hk))) (fun z => absurd (nI_le (a := 3) (b := r) (by omega) (by omega)) z))
  | j + 1, r, hr, hk => by
    have ht := h.2.2.2.2
    refine b_Mo_isWord_r13_35 (fun z => absurd z (by decide)) (fun _ => b_Mo_isWord_r13_39 hg ho (fun z => absurd z (nI_ge (a := r) (b := 3) (by omega) (by omega))) (fun _ => b_Mo_isWord_r13_48 hg ho (by rw [h.2.2.1, nI_add]; exact vp_in_nI (by omega) (by omega)) (vp_in_nI (by omega) (by omega)) (fun z => b_Mo_isWord_r13_73 (b_Mo_isWord_r13_74 (b_Mo_isWord_r13_35 (fun _ => b_Mo_isWord_r13_81 (hn (fun y => z ?_))) (fun y => absurd rfl y)))) (fun z => b_Mo_isWord_r13_69 (b_Mo_isWord_r13_74 ?_))))
    · rw [h.2.2.1, nI_add, nI_clamp (by omega), h.2.1 _ (by omega), y r (by omega), nI_clamp (by omega)]
      exact (show ∀ k, k < 3 → kw9.getD k 0 = ((oTx10 k &&& 255).toUInt32 % 65536).toInt32 by decide) r (by omega)
    · rw [h.2.2.1, nI_add, nI_clamp (by omega), h.2.1 _ (by omega), nI_clamp (by omega)] at z
      rw [show nI r + Int32.ofInt 1 = nI (r + 1) from nI_1 r]
      refine wl_w13 hg ho h hN hy hn j (r + 1) (by omega) (fun k hk' => ?_)
      by_cases e : k = r
      · subst e
        rw [z]
        exact ((show ∀ k, k < 3 → kw9.getD k 0 = ((oTx10 k &&& 255).toUInt32 % 65536).toInt32 by decide) k (by omega)).symm
      · exact hk k (by omega)
theorem wm_isW9 (hg : ip_gk (lg_tbl, vwCl, Gr)) (ho : ip_old (lg_tbl, vwCl, Gr)) (h : mA b t q S) : zMi l Gr (zc n w) 168 M_Mo_isWord (d + 4) [.ref 105, .ref 13] S (fun v S' => S' = S ∧ v = if wd b q (we b t q) = kw9 then 1 else 0) := by
  have hw := we_le (b := b) h.2.2.2.1
  have ht := h.2.2.2.2
  refine e_Mo_isWord_r13 (b_Mo_isWord_r13_0 hg (wm_wordEnd hg h) (fun v S' hv => ?_))
  obtain ⟨e, hv⟩ := hv
  rw [e, hv]
  have no : ¬ wd b q (we b t q) = kw9 → zW l Gr (zc n w) 168 M_Mo_isWord (d + 4) 30 [some (.ref 105), some (.ref 13), none, none, none] [] S (fun v S' => ∃ x, v = some (.int x) ∧ (x = 0 ∨ x = 1) ∧ S' = S ∧ x = if wd b q (we b t q) = kw9 then 1 else 0) := fun z => b_Mo_isWord_r13_30 (b_Mo_isWord_r13_31 (b_Mo_isWord_r13_35 (fun _ => b_Mo_isWord_r13_81 ⟨_, rfl, Or.inl rfl, rfl, (if_neg z).symm⟩) (fun y => absurd rfl y)))
  refine b_Mo_isWord_r13_4 hg ho (fun z => no (fun y => z ?_)) (fun z => ?_)
  · rw [wd_iff] at y
    rw [h.2.2.1, pk_sub hw.1, y.1]
    rfl
  · rw [h.2.2.1, pk_sub hw.1] at z
    have z1 : we b t q - q = 3 := (nI_eq (by omega) (by omega)).mp z
    have iff : wd b q (we b t q) = kw9 ↔ ∀ k, k < 3 → b (q + k) = kw9.getD k 0 := by
      rw [wd_iff]
      exact ⟨fun y => y.2, fun y => ⟨z1, y⟩⟩
    refine b_Mo_isWord_r13_18 (fun y => ?_) (fun _ => b_Mo_isWord_r13_26 (b_Mo_isWord_r13_31 ?_))
    · rw [h.2.2.1] at y
      have := (nI_leI (by omega) (by omega)).mp y
      omega
    · exact wl_w13 hg ho h (by omega) (fun y => ⟨_, rfl, Or.inr rfl, rfl, (if_pos (iff.mpr y)).symm⟩) (fun y => ⟨_, rfl, Or.inl rfl, rfl, (if_neg (fun z => y (iff.mp z))).symm⟩) 3 0 (by omega) (fun k hk => absurd hk (Nat.not_lt_zero k))
theorem wl_w14 (hg : ip_gk (lg_tbl, vwCl, Gr)) (ho : ip_old (lg_tbl, vwCl, Gr)) (h : mA b t q S) (hN : q + 3 ≤ t) {Q : Option Value → zS → Prop} (hy : (∀ k, k < 3 → b (q + k) = kw10.getD k 0) → Q (some (.int 1)) S) (hn : ¬ (∀ k, k < 3 → b (q + k) = kw10.getD k 0) → Q (some (.int 0)) S) : ∀ (j r : Nat), r + j = 3 → (∀ k, k < r → b (q + k) = kw10.getD k 0) → zW l Gr (zc n w) 168 M_Mo_isWord (d + 4) 35 [some (.ref 105), some (.ref 14), none, some (.int 1), some (.int (nI r))] [] S Q
  | 0, r, hr, hk => b_Mo_isWord_r14_35 (fun z => absurd z (by decide)) (fun _ => b_Mo_isWord_r14_39 hg ho (fun _ => b_Mo_isWord_r14_81 (hy (by rw [show 3 = r by omega]; exact hk))) (fun z => absurd (nI_le (a := 3) (b := r) (by omega) (by omega)) z))
  | j + 1, r, hr, hk => by
    have ht := h.2.2.2.2
    refine b_Mo_isWord_r14_35 (fun z => absurd z (by decide)) (fun _ => b_Mo_isWord_r14_39 hg ho (fun z => absurd z (nI_ge (a := r) (b := 3) (by omega) (by omega))) (fun _ => b_Mo_isWord_r14_48 hg ho (by rw [h.2.2.1, nI_add]; exact vp_in_nI (by omega) (by omega)) (vp_in_nI (by omega) (by omega)) (fun z => b_Mo_isWord_r14_73 (b_Mo_isWord_r14_74 (b_Mo_isWord_r14_35 (fun _ => b_Mo_isWord_r14_81 (hn (fun y => z ?_))) (fun y => absurd rfl y)))) (fun z => b_Mo_isWord_r14_69 (b_Mo_isWord_r14_74 ?_))))
    · rw [h.2.2.1, nI_add, nI_clamp (by omega), h.2.1 _ (by omega), y r (by omega), nI_clamp (by omega)]
      exact (show ∀ k, k < 3 → kw10.getD k 0 = ((oTx11 k &&& 255).toUInt32 % 65536).toInt32 by decide) r (by omega)
    · rw [h.2.2.1, nI_add, nI_clamp (by omega), h.2.1 _ (by omega), nI_clamp (by omega)] at z
      rw [show nI r + Int32.ofInt 1 = nI (r + 1) from nI_1 r]
      refine wl_w14 hg ho h hN hy hn j (r + 1) (by omega) (fun k hk' => ?_)
      by_cases e : k = r
      · subst e
        rw [z]
        exact ((show ∀ k, k < 3 → kw10.getD k 0 = ((oTx11 k &&& 255).toUInt32 % 65536).toInt32 by decide) k (by omega)).symm
      · exact hk k (by omega)
theorem wm_isW10 (hg : ip_gk (lg_tbl, vwCl, Gr)) (ho : ip_old (lg_tbl, vwCl, Gr)) (h : mA b t q S) : zMi l Gr (zc n w) 168 M_Mo_isWord (d + 4) [.ref 105, .ref 14] S (fun v S' => S' = S ∧ v = if wd b q (we b t q) = kw10 then 1 else 0) := by
  have hw := we_le (b := b) h.2.2.2.1
  have ht := h.2.2.2.2
  refine e_Mo_isWord_r14 (b_Mo_isWord_r14_0 hg (wm_wordEnd hg h) (fun v S' hv => ?_))
  obtain ⟨e, hv⟩ := hv
  rw [e, hv]
  have no : ¬ wd b q (we b t q) = kw10 → zW l Gr (zc n w) 168 M_Mo_isWord (d + 4) 30 [some (.ref 105), some (.ref 14), none, none, none] [] S (fun v S' => ∃ x, v = some (.int x) ∧ (x = 0 ∨ x = 1) ∧ S' = S ∧ x = if wd b q (we b t q) = kw10 then 1 else 0) := fun z => b_Mo_isWord_r14_30 (b_Mo_isWord_r14_31 (b_Mo_isWord_r14_35 (fun _ => b_Mo_isWord_r14_81 ⟨_, rfl, Or.inl rfl, rfl, (if_neg z).symm⟩) (fun y => absurd rfl y)))
  refine b_Mo_isWord_r14_4 hg ho (fun z => no (fun y => z ?_)) (fun z => ?_)
  · rw [wd_iff] at y
    rw [h.2.2.1, pk_sub hw.1, y.1]
    rfl
  · rw [h.2.2.1, pk_sub hw.1] at z
    have z1 : we b t q - q = 3 := (nI_eq (by omega) (by omega)).mp z
    have iff : wd b q (we b t q) = kw10 ↔ ∀ k, k < 3 → b (q + k) = kw10.getD k 0 := by
      rw [wd_iff]
      exact ⟨fun y => y.2, fun y => ⟨z1, y⟩⟩
    refine b_Mo_isWord_r14_18 (fun y => ?_) (fun _ => b_Mo_isWord_r14_26 (b_Mo_isWord_r14_31 ?_))
    · rw [h.2.2.1] at y
      have := (nI_leI (by omega) (by omega)).mp y
      omega
    · exact wl_w14 hg ho h (by omega) (fun y => ⟨_, rfl, Or.inr rfl, rfl, (if_pos (iff.mpr y)).symm⟩) (fun y => ⟨_, rfl, Or.inl rfl, rfl, (if_neg (fun z => y (iff.mp z))).symm⟩) 3 0 (by omega) (fun k hk => absurd hk (Nat.not_lt_zero k))
theorem wl_w15 (hg : ip_gk (lg_tbl, vwCl, Gr)) (ho : ip_old (lg_tbl, vwCl, Gr)) (h : mA b t q S) (hN : q + 4 ≤ t) {Q : Option Value → zS → Prop} (hy : (∀ k, k < 4 → b (q + k) = kw11.getD k 0) → Q (some (.int 1)) S) (hn : ¬ (∀ k, k < 4 → b (q + k) = kw11.getD k 0) → Q (some (.int 0)) S) : ∀ (j r : Nat), r + j = 4 → (∀ k, k < r → b (q + k) = kw11.getD k 0) → zW l Gr (zc n w) 168 M_Mo_isWord (d + 4) 35 [some (.ref 105), some (.ref 15), none, some (.int 1), some (.int (nI r))] [] S Q
  | 0, r, hr, hk => b_Mo_isWord_r15_35 (fun z => absurd z (by decide)) (fun _ => b_Mo_isWord_r15_39 hg ho (fun _ => b_Mo_isWord_r15_81 (hy (by rw [show 4 = r by omega]; exact hk))) (fun z => absurd (nI_le (a := 4) (b := r) (by omega) (by omega)) z))
  | j + 1, r, hr, hk => by
    have ht := h.2.2.2.2
    refine b_Mo_isWord_r15_35 (fun z => absurd z (by decide)) (fun _ => b_Mo_isWord_r15_39 hg ho (fun z => absurd z (nI_ge (a := r) (b := 4) (by omega) (by omega))) (fun _ => b_Mo_isWord_r15_48 hg ho (by rw [h.2.2.1, nI_add]; exact vp_in_nI (by omega) (by omega)) (vp_in_nI (by omega) (by omega)) (fun z => b_Mo_isWord_r15_73 (b_Mo_isWord_r15_74 (b_Mo_isWord_r15_35 (fun _ => b_Mo_isWord_r15_81 (hn (fun y => z ?_))) (fun y => absurd rfl y)))) (fun z => b_Mo_isWord_r15_69 (b_Mo_isWord_r15_74 ?_))))
    · rw [h.2.2.1, nI_add, nI_clamp (by omega), h.2.1 _ (by omega), y r (by omega), nI_clamp (by omega)]
      exact (show ∀ k, k < 4 → kw11.getD k 0 = ((oTx12 k &&& 255).toUInt32 % 65536).toInt32 by decide) r (by omega)
    · rw [h.2.2.1, nI_add, nI_clamp (by omega), h.2.1 _ (by omega), nI_clamp (by omega)] at z
      rw [show nI r + Int32.ofInt 1 = nI (r + 1) from nI_1 r]
      refine wl_w15 hg ho h hN hy hn j (r + 1) (by omega) (fun k hk' => ?_)
      by_cases e : k = r
      · subst e
        rw [z]
        exact ((show ∀ k, k < 4 → kw11.getD k 0 = ((oTx12 k &&& 255).toUInt32 % 65536).toInt32 by decide) k (by omega)).symm
      · exact hk k (by omega)
theorem wm_isW11 (hg : ip_gk (lg_tbl, vwCl, Gr)) (ho : ip_old (lg_tbl, vwCl, Gr)) (h : mA b t q S) : zMi l Gr (zc n w) 168 M_Mo_isWord (d + 4) [.ref 105, .ref 15] S (fun v S' => S' = S ∧ v = if wd b q (we b t q) = kw11 then 1 else 0) := by
  have hw := we_le (b := b) h.2.2.2.1
  have ht := h.2.2.2.2
  refine e_Mo_isWord_r15 (b_Mo_isWord_r15_0 hg (wm_wordEnd hg h) (fun v S' hv => ?_))
  obtain ⟨e, hv⟩ := hv
  rw [e, hv]
  have no : ¬ wd b q (we b t q) = kw11 → zW l Gr (zc n w) 168 M_Mo_isWord (d + 4) 30 [some (.ref 105), some (.ref 15), none, none, none] [] S (fun v S' => ∃ x, v = some (.int x) ∧ (x = 0 ∨ x = 1) ∧ S' = S ∧ x = if wd b q (we b t q) = kw11 then 1 else 0) := fun z => b_Mo_isWord_r15_30 (b_Mo_isWord_r15_31 (b_Mo_isWord_r15_35 (fun _ => b_Mo_isWord_r15_81 ⟨_, rfl, Or.inl rfl, rfl, (if_neg z).symm⟩) (fun y => absurd rfl y)))
  refine b_Mo_isWord_r15_4 hg ho (fun z => no (fun y => z ?_)) (fun z => ?_)
  · rw [wd_iff] at y
    rw [h.2.2.1, pk_sub hw.1, y.1]
    rfl
  · rw [h.2.2.1, pk_sub hw.1] at z
    have z1 : we b t q - q = 4 := (nI_eq (by omega) (by omega)).mp z
    have iff : wd b q (we b t q) = kw11 ↔ ∀ k, k < 4 → b (q + k) = kw11.getD k 0 := by
      rw [wd_iff]
      exact ⟨fun y => y.2, fun y => ⟨z1, y⟩⟩
    refine b_Mo_isWord_r15_18 (fun y => ?_) (fun _ => b_Mo_isWord_r15_26 (b_Mo_isWord_r15_31 ?_))
    · rw [h.2.2.1] at y
      have := (nI_leI (by omega) (by omega)).mp y
      omega
    · exact wl_w15 hg ho h (by omega) (fun y => ⟨_, rfl, Or.inr rfl, rfl, (if_pos (iff.mpr y)).symm⟩) (fun y => ⟨_, rfl, Or.inl rfl, rfl, (if_neg (fun z => y (iff.mp z))).symm⟩) 4 0 (by omega) (fun k hk => absurd hk (Nat.not_lt_zero k))
theorem wl_w16 (hg : ip_gk (lg_tbl, vwCl, Gr)) (ho : ip_old (lg_tbl, vwCl, Gr)) (h : mA b t q S) (hN : q + 5 ≤ t) {Q : Option Value → zS → Prop} (hy : (∀ k, k < 5 → b (q + k) = kw12.getD k 0) → Q (some (.int 1)) S) (hn : ¬ (∀ k, k < 5 → b (q + k) = kw12.getD k 0) → Q (some (.int 0)) S) : ∀ (j r : Nat), r + j = 5 → (∀ k, k < r → b (q + k) = kw12.getD k 0) → zW l Gr (zc n w) 168 M_Mo_isWord (d + 4) 35 [some (.ref 105), some (.ref 16), none, some (.int 1), some (.int (nI r))] [] S Q
  | 0, r, hr, hk => b_Mo_isWord_r16_35 (fun z => absurd z (by decide)) (fun _ => b_Mo_isWord_r16_39 hg ho (fun _ => b_Mo_isWord_r16_81 (hy (by rw [show 5 = r by omega]; exact hk))) (fun z => absurd (nI_le (a := 5) (b := r) (by omega) (by omega)) z))
  | j + 1, r, hr, hk => by
    have ht := h.2.2.2.2
    refine b_Mo_isWord_r16_35 (fun z => absurd z (by decide)) (fun _ => b_Mo_isWord_r16_39 hg ho (fun z => absurd z (nI_ge (a := r) (b := 5) (by omega) (by omega))) (fun _ => b_Mo_isWord_r16_48 hg ho (by rw [h.2.2.1, nI_add]; exact vp_in_nI (by omega) (by omega)) (vp_in_nI (by omega) (by omega)) (fun z => b_Mo_isWord_r16_73 (b_Mo_isWord_r16_74 (b_Mo_isWord_r16_35 (fun _ => b_Mo_isWord_r16_81 (hn (fun y => z ?_))) (fun y => absurd rfl y)))) (fun z => b_Mo_isWord_r16_69 (b_Mo_isWord_r16_74 ?_))))
    · rw [h.2.2.1, nI_add, nI_clamp (by omega), h.2.1 _ (by omega), y r (by omega), nI_clamp (by omega)]
      exact (show ∀ k, k < 5 → kw12.getD k 0 = ((oTx13 k &&& 255).toUInt32 % 65536).toInt32 by decide) r (by omega)
    · rw [h.2.2.1, nI_add, nI_clamp (by omega), h.2.1 _ (by omega), nI_clamp (by omega)] at z
      rw [show nI r + Int32.ofInt 1 = nI (r + 1) from nI_1 r]
      refine wl_w16 hg ho h hN hy hn j (r + 1) (by omega) (fun k hk' => ?_)
      by_cases e : k = r
      · subst e
        rw [z]
        exact ((show ∀ k, k < 5 → kw12.getD k 0 = ((oTx13 k &&& 255).toUInt32 % 65536).toInt32 by decide) k (by omega)).symm
      · exact hk k (by omega)
theorem wm_isW12 (hg : ip_gk (lg_tbl, vwCl, Gr)) (ho : ip_old (lg_tbl, vwCl, Gr)) (h : mA b t q S) : zMi l Gr (zc n w) 168 M_Mo_isWord (d + 4) [.ref 105, .ref 16] S (fun v S' => S' = S ∧ v = if wd b q (we b t q) = kw12 then 1 else 0) := by
  have hw := we_le (b := b) h.2.2.2.1
  have ht := h.2.2.2.2
  refine e_Mo_isWord_r16 (b_Mo_isWord_r16_0 hg (wm_wordEnd hg h) (fun v S' hv => ?_))
  obtain ⟨e, hv⟩ := hv
  rw [e, hv]
  have no : ¬ wd b q (we b t q) = kw12 → zW l Gr (zc n w) 168 M_Mo_isWord (d + 4) 30 [some (.ref 105), some (.ref 16), none, none, none] [] S (fun v S' => ∃ x, v = some (.int x) ∧ (x = 0 ∨ x = 1) ∧ S' = S ∧ x = if wd b q (we b t q) = kw12 then 1 else 0) := fun z => b_Mo_isWord_r16_30 (b_Mo_isWord_r16_31 (b_Mo_isWord_r16_35 (fun _ => b_Mo_isWord_r16_81 ⟨_, rfl, Or.inl rfl, rfl, (if_neg z).symm⟩) (fun y => absurd rfl y)))
  refine b_Mo_isWord_r16_4 hg ho (fun z => no (fun y => z ?_)) (fun z => ?_)
  · rw [wd_iff] at y
    rw [h.2.2.1, pk_sub hw.1, y.1]
    rfl
  · rw [h.2.2.1, pk_sub hw.1] at z
    have z1 : we b t q - q = 5 := (nI_eq (by omega) (by omega)).mp z
    have iff : wd b q (we b t q) = kw12 ↔ ∀ k, k < 5 → b (q + k) = kw12.getD k 0 := by
      rw [wd_iff]
      exact ⟨fun y => y.2, fun y => ⟨z1, y⟩⟩
    refine b_Mo_isWord_r16_18 (fun y => ?_) (fun _ => b_Mo_isWord_r16_26 (b_Mo_isWord_r16_31 ?_))
    · rw [h.2.2.1] at y
      have := (nI_leI (by omega) (by omega)).mp y
      omega
    · exact wl_w16 hg ho h (by omega) (fun y => ⟨_, rfl, Or.inr rfl, rfl, (if_pos (iff.mpr y)).symm⟩) (fun y => ⟨_, rfl, Or.inl rfl, rfl, (if_neg (fun z => y (iff.mp z))).symm⟩) 5 0 (by omega) (fun k hk => absurd hk (Nat.not_lt_zero k))
theorem wm_isKept (hg : ip_gk (lg_tbl, vwCl, Gr)) (ho : ip_old (lg_tbl, vwCl, Gr)) (h : mA b t q S) : zMi l Gr (zc n w) 168 M_Mo_isKept (d + 5) [.ref 105] S (fun v S' => S' = S ∧ v = if wk (wd b q (we b t q)) = 1 then 0 else 1) := by
  have yes : ¬ wk (wd b q (we b t q)) = 1 → zW l Gr (zc n w) 168 M_Mo_isKept (d + 5) 130 [none] [] S (fun v S' => ∃ x, v = some (.int x) ∧ (x = 0 ∨ x = 1) ∧ S' = S ∧ x = if wk (wd b q (we b t q)) = 1 then 0 else 1) := fun z => b_Mo_isKept_130 (b_Mo_isKept_135 ⟨_, rfl, Or.inr rfl, rfl, (if_neg z).symm⟩)
  refine e_Mo_isKept ?_
  refine b_Mo_isKept_0 hg ho (wm_isW0 hg ho h) (fun v S' hv => ?_)
  obtain ⟨e, hv⟩ := hv
  rw [e]
  by_cases h0 : wd b q (we b t q) = kw0
  · rw [if_pos h0] at hv
    subst hv
    exact b_Mo_isKept_7 (fun _ => yes (by rw [h0]; decide)) (fun y => absurd y (by decide))
  rw [if_neg h0] at hv
  subst hv
  refine b_Mo_isKept_7 (fun y => absurd rfl y) (fun _ => ?_)
  refine b_Mo_isKept_10 hg ho (wm_isW1 hg ho h) (fun v S' hv => ?_)
  obtain ⟨e, hv⟩ := hv
  rw [e]
  by_cases h1 : wd b q (we b t q) = kw1
  · rw [if_pos h1] at hv
    subst hv
    exact b_Mo_isKept_17 (fun _ => yes (by rw [h1]; decide)) (fun y => absurd y (by decide))
  rw [if_neg h1] at hv
  subst hv
  refine b_Mo_isKept_17 (fun y => absurd rfl y) (fun _ => ?_)
  refine b_Mo_isKept_20 hg ho (wm_isW2 hg ho h) (fun v S' hv => ?_)
  obtain ⟨e, hv⟩ := hv
  rw [e]
  by_cases h2 : wd b q (we b t q) = kw2
  · rw [if_pos h2] at hv
    subst hv
    exact b_Mo_isKept_27 (fun _ => yes (by rw [h2]; decide)) (fun y => absurd y (by decide))
  rw [if_neg h2] at hv
  subst hv
  refine b_Mo_isKept_27 (fun y => absurd rfl y) (fun _ => ?_)
  refine b_Mo_isKept_30 hg ho (wm_isW3 hg ho h) (fun v S' hv => ?_)
  obtain ⟨e, hv⟩ := hv
  rw [e]
  by_cases h3 : wd b q (we b t q) = kw3
  · rw [if_pos h3] at hv
    subst hv
    exact b_Mo_isKept_37 (fun _ => yes (by rw [h3]; decide)) (fun y => absurd y (by decide))
  rw [if_neg h3] at hv
  subst hv
  refine b_Mo_isKept_37 (fun y => absurd rfl y) (fun _ => ?_)
  refine b_Mo_isKept_40 hg ho (wm_isW4 hg ho h) (fun v S' hv => ?_)
  obtain ⟨e, hv⟩ := hv
  rw [e]
  by_cases h4 : wd b q (we b t q) = kw4
  · rw [if_pos h4] at hv
    subst hv
    exact b_Mo_isKept_47 (fun _ => yes (by rw [h4]; decide)) (fun y => absurd y (by decide))
  rw [if_neg h4] at hv
  subst hv
  refine b_Mo_isKept_47 (fun y => absurd rfl y) (fun _ => ?_)
  refine b_Mo_isKept_50 hg ho (wm_isW5 hg ho h) (fun v S' hv => ?_)
  obtain ⟨e, hv⟩ := hv
  rw [e]
  by_cases h5 : wd b q (we b t q) = kw5
  · rw [if_pos h5] at hv
    subst hv
    exact b_Mo_isKept_57 (fun _ => yes (by rw [h5]; decide)) (fun y => absurd y (by decide))
  rw [if_neg h5] at hv
  subst hv
  refine b_Mo_isKept_57 (fun y => absurd rfl y) (fun _ => ?_)
  refine b_Mo_isKept_60 hg ho (wm_isW6 hg ho h) (fun v S' hv => ?_)
  obtain ⟨e, hv⟩ := hv
  rw [e]
  by_cases h6 : wd b q (we b t q) = kw6
  · rw [if_pos h6] at hv
    subst hv
    exact b_Mo_isKept_67 (fun _ => yes (by rw [h6]; decide)) (fun y => absurd y (by decide))
  rw [if_neg h6] at hv
  subst hv
  refine b_Mo_isKept_67 (fun y => absurd rfl y) (fun _ => ?_)
  refine b_Mo_isKept_70 hg ho (wm_isW7 hg ho h) (fun v S' hv => ?_)
  obtain ⟨e, hv⟩ := hv
  rw [e]
  by_cases h7 : wd b q (we b t q) = kw7
  · rw [if_pos h7] at hv
    subst hv
    exact b_Mo_isKept_77 (fun _ => yes (by rw [h7]; decide)) (fun y => absurd y (by decide))
  rw [if_neg h7] at hv
  subst hv
  refine b_Mo_isKept_77 (fun y => absurd rfl y) (fun _ => ?_)
  refine b_Mo_isKept_80 hg ho (wm_isW8 hg ho h) (fun v S' hv => ?_)
  obtain ⟨e, hv⟩ := hv
  rw [e]
  by_cases h8 : wd b q (we b t q) = kw8
  · rw [if_pos h8] at hv
    subst hv
    exact b_Mo_isKept_87 (fun _ => yes (by rw [h8]; decide)) (fun y => absurd y (by decide))
  rw [if_neg h8] at hv
  subst hv
  refine b_Mo_isKept_87 (fun y => absurd rfl y) (fun _ => ?_)
  refine b_Mo_isKept_90 hg ho (wm_isW9 hg ho h) (fun v S' hv => ?_)
  obtain ⟨e, hv⟩ := hv
  rw [e]
  by_cases h9 : wd b q (we b t q) = kw9
  · rw [if_pos h9] at hv
    subst hv
    exact b_Mo_isKept_97 (fun _ => yes (by rw [h9]; decide)) (fun y => absurd y (by decide))
  rw [if_neg h9] at hv
  subst hv
  refine b_Mo_isKept_97 (fun y => absurd rfl y) (fun _ => ?_)
  refine b_Mo_isKept_100 hg ho (wm_isW10 hg ho h) (fun v S' hv => ?_)
  obtain ⟨e, hv⟩ := hv
  rw [e]
  by_cases h10 : wd b q (we b t q) = kw10
  · rw [if_pos h10] at hv
    subst hv
    exact b_Mo_isKept_107 (fun _ => yes (by rw [h10]; decide)) (fun y => absurd y (by decide))
  rw [if_neg h10] at hv
  subst hv
  refine b_Mo_isKept_107 (fun y => absurd rfl y) (fun _ => ?_)
  refine b_Mo_isKept_110 hg ho (wm_isW11 hg ho h) (fun v S' hv => ?_)
  obtain ⟨e, hv⟩ := hv
  rw [e]
  by_cases h11 : wd b q (we b t q) = kw11
  · rw [if_pos h11] at hv
    subst hv
    exact b_Mo_isKept_117 (fun _ => yes (by rw [h11]; decide)) (fun y => absurd y (by decide))
  rw [if_neg h11] at hv
  subst hv
  refine b_Mo_isKept_117 (fun y => absurd rfl y) (fun _ => ?_)
  refine b_Mo_isKept_120 hg ho (wm_isW12 hg ho h) (fun v S' hv => ?_)
  obtain ⟨e, hv⟩ := hv
  rw [e]
  by_cases h12 : wd b q (we b t q) = kw12
  · rw [if_pos h12] at hv
    subst hv
    exact b_Mo_isKept_127 (fun y => absurd y (by decide)) (fun _ => yes (by rw [h12]; decide))
  rw [if_neg h12] at hv
  subst hv
  refine b_Mo_isKept_127 (fun _ => b_Mo_isKept_134 (b_Mo_isKept_135 ⟨_, rfl, Or.inl rfl, rfl, (if_pos (wk_n.mpr ⟨h0, h1, h2, h3, h4, h5, h6, h7, h8, h9, h10, h11, h12⟩)).symm⟩)) (fun y => absurd rfl y)
theorem wm_isPair (hg : ip_gk (lg_tbl, vwCl, Gr)) (h : mA b t q S) : zMi l Gr (zc n w) 168 M_Mo_isPair (d + 1) [.ref 105] S (fun v S' => S' = S ∧ v = if pr (lk b t q) (lk b t (q + 1)) then 1 else 0) := by
  refine e_Mo_isPair (b_Mo_isPair_0 hg (wm_k0 h) (fun v S' hv => ?_))
  obtain ⟨e, hv⟩ := hv
  rw [e, hv]
  refine b_Mo_isPair_5 hg (wm_k1 h) (fun v S' hv => ?_)
  obtain ⟨e, hv⟩ := hv
  rw [e, hv]
  obtain ⟨a, ea⟩ : ∃ a, a = lk b t q := ⟨_, rfl⟩
  obtain ⟨x, ex⟩ : ∃ x, x = lk b t (q + 1) := ⟨_, rfl⟩
  rw [← ea, ← ex]
  have y : pr a x → zW l Gr (zc n w) 168 M_Mo_isPair (d + 1) 90 [none, none, none] [] S (fun v S' => ∃ x', v = some (.int x') ∧ (x' = 0 ∨ x' = 1) ∧ S' = S ∧ x' = if pr a x then 1 else 0) := fun z => b_Mo_isPair_90 (b_Mo_isPair_95 ⟨_, rfl, Or.inr rfl, rfl, (if_pos z).symm⟩)
  have o : ¬ pr a x → zW l Gr (zc n w) 168 M_Mo_isPair (d + 1) 94 [none, none, none] [] S (fun v S' => ∃ x', v = some (.int x') ∧ (x' = 0 ∨ x' = 1) ∧ S' = S ∧ x' = if pr a x then 1 else 0) := fun z => b_Mo_isPair_94 (b_Mo_isPair_95 ⟨_, rfl, Or.inl rfl, rfl, (if_neg z).symm⟩)
  have k78 : ¬ (a = 124 ∧ x = 124) → ¬ (a = 38 ∧ x = 38) → ¬ ((a = 61 ∨ a = 33 ∨ a = 60 ∨ a = 62) ∧ x = 61) → ¬ (a = 60 ∧ x = 60) → zW l Gr (zc n w) 168 M_Mo_isPair (d + 1) 78 [none, some (.int a), some (.int x)] [] S (fun v S' => ∃ x', v = some (.int x') ∧ (x' = 0 ∨ x' = 1) ∧ S' = S ∧ x' = if pr a x then 1 else 0) := fun c1 c2 c3 c4 =>
    b_Mo_isPair_78 (fun z => o (fun p => p.elim c1 (fun p => p.elim c2 (fun p => p.elim c3 (fun p => p.elim c4 (fun p => z p.1)))))) (fun z => b_Mo_isPair_84 (fun z2 => o (fun p => p.elim c1 (fun p => p.elim c2 (fun p => p.elim c3 (fun p => p.elim c4 (fun p => z2 p.2)))))) (fun z2 => y (Or.inr (Or.inr (Or.inr (Or.inr ⟨z, z2⟩))))))
  have k66 : ¬ (a = 124 ∧ x = 124) → ¬ (a = 38 ∧ x = 38) → ¬ ((a = 61 ∨ a = 33 ∨ a = 60 ∨ a = 62) ∧ x = 61) → zW l Gr (zc n w) 168 M_Mo_isPair (d + 1) 66 [none, some (.int a), some (.int x)] [] S (fun v S' => ∃ x', v = some (.int x') ∧ (x' = 0 ∨ x' = 1) ∧ S' = S ∧ x' = if pr a x then 1 else 0) := fun c1 c2 c3 =>
    b_Mo_isPair_66 (fun z => k78 c1 c2 c3 (fun p => z p.1)) (fun z => b_Mo_isPair_72 (fun z2 => y (Or.inr (Or.inr (Or.inr (Or.inl ⟨z, z2⟩))))) (fun z2 => k78 c1 c2 c3 (fun p => z2 p.2)))
  have k60 : ¬ (a = 124 ∧ x = 124) → ¬ (a = 38 ∧ x = 38) → (a = 61 ∨ a = 33 ∨ a = 60 ∨ a = 62) → zW l Gr (zc n w) 168 M_Mo_isPair (d + 1) 60 [none, some (.int a), some (.int x)] [] S (fun v S' => ∃ x', v = some (.int x') ∧ (x' = 0 ∨ x' = 1) ∧ S' = S ∧ x' = if pr a x then 1 else 0) := fun c1 c2 ha =>
    b_Mo_isPair_60 (fun z => y (Or.inr (Or.inr (Or.inl ⟨ha, z⟩)))) (fun z => k66 c1 c2 (fun p => z p.2))
  have k36 : ¬ (a = 124 ∧ x = 124) → ¬ (a = 38 ∧ x = 38) → zW l Gr (zc n w) 168 M_Mo_isPair (d + 1) 36 [none, some (.int a), some (.int x)] [] S (fun v S' => ∃ x', v = some (.int x') ∧ (x' = 0 ∨ x' = 1) ∧ S' = S ∧ x' = if pr a x then 1 else 0) := fun c1 c2 =>
    b_Mo_isPair_36 (fun z => k60 c1 c2 (Or.inl z)) (fun z => b_Mo_isPair_42 (fun z2 => k60 c1 c2 (Or.inr (Or.inl z2))) (fun z2 => b_Mo_isPair_48 (fun z3 => k60 c1 c2 (Or.inr (Or.inr (Or.inl z3)))) (fun z3 => b_Mo_isPair_54 (fun z4 => k66 c1 c2 (fun p => p.1.elim z (fun p => p.elim z2 (fun p => p.elim z3 z4)))) (fun z4 => k60 c1 c2 (Or.inr (Or.inr (Or.inr z4)))))))
  have k24 : ¬ (a = 124 ∧ x = 124) → zW l Gr (zc n w) 168 M_Mo_isPair (d + 1) 24 [none, some (.int a), some (.int x)] [] S (fun v S' => ∃ x', v = some (.int x') ∧ (x' = 0 ∨ x' = 1) ∧ S' = S ∧ x' = if pr a x then 1 else 0) := fun c1 =>
    b_Mo_isPair_24 (fun z => k36 c1 (fun p => z p.1)) (fun z => b_Mo_isPair_30 (fun z2 => y (Or.inr (Or.inl ⟨z, z2⟩))) (fun z2 => k36 c1 (fun p => z2 p.2)))
  exact b_Mo_isPair_11 (fun z => k24 (fun p => z p.1)) (fun z => b_Mo_isPair_18 (fun z2 => y (Or.inl ⟨z, z2⟩)) (fun z2 => k24 (fun p => z2 p.2)))
/-- the sign c, and no pair, at q -/
abbrev sg (b : Nat → Int32) (t q : Nat) (c : Int32) : Prop := lk b t q = c ∧ ¬ pr (lk b t q) (lk b t (q + 1))
theorem wm_isSign (hg : ip_gk (lg_tbl, vwCl, Gr)) {c : Int32} (h : mA b t q S) : zMi l Gr (zc n w) 168 M_Mo_isSign (d + 2) [.ref 105, .int c] S (fun v S' => S' = S ∧ v = if sg b t q c then 1 else 0) := by
  refine e_Mo_isSign (b_Mo_isSign_0 hg (wm_k0 h) (fun v S' hv => ?_))
  obtain ⟨e, hv⟩ := hv
  rw [e, hv]
  refine b_Mo_isSign_5 (fun z => b_Mo_isSign_20 (b_Mo_isSign_21 ⟨_, rfl, Or.inl rfl, rfl, (if_neg (fun p => z p.1)).symm⟩)) (fun z => b_Mo_isSign_9 hg (wm_isPair hg h) (fun v S' hv => ?_))
  obtain ⟨e, hv⟩ := hv
  rw [e]
  by_cases p : pr (lk b t q) (lk b t (q + 1))
  · rw [if_pos p] at hv
    subst hv
    exact b_Mo_isSign_13 (fun _ => b_Mo_isSign_20 (b_Mo_isSign_21 ⟨_, rfl, Or.inl rfl, rfl, (if_neg (fun y => y.2 p)).symm⟩)) (fun y => absurd y (by decide))
  · rw [if_neg p] at hv
    subst hv
    exact b_Mo_isSign_13 (fun y => absurd rfl y) (fun _ => b_Mo_isSign_16 (b_Mo_isSign_21 ⟨_, rfl, Or.inr rfl, rfl, (if_pos ⟨z, p⟩).symm⟩))
end ML
