/-! the class's reader: its state, and its small methods -/
def CS (b : Nat → Int32) (t p i ws : Nat) (S : zS) : Prop := S.1 2 = b ∧ S.1 38 1 = nI t ∧ S.1 38 3 = nI p ∧ S.1 38 2 = tk b t p ∧ S.1 38 4 = nI (te b t p) ∧ S.1 3 4 = nI i ∧ S.1 3 5 = 0 ∧ S.1 34 9 = nI ws ∧ wb b t p ∧ t ≤ 4000
/-- where the next word begins -/
abbrev np (b : Nat → Int32) (t p : Nat) : Nat := gp b t (te b t p)
/-- what the class's reader of EXPRs keeps -/
def CK (S S' : zS) (i ws : Nat) : Prop :=
  cgS S S' 0 i ∧ (∀ k, k < ws → S'.1 35 k = S.1 35 k ∧ S'.1 36 k = S.1 36 k ∧ S'.1 37 k = S.1 37 k) ∧
  (∀ c k, ¬ (3 ≤ c ∧ c ≤ 7) → ¬ (34 ≤ c ∧ c ≤ 38) → S'.1 c k = S.1 c k) ∧ (∀ k, ¬ k = 9 → S'.1 34 k = S.1 34 k) ∧ (∀ k, k < 2 → S'.1 38 k = S.1 38 k) ∧ (∀ c k, S'.2 c k = S.2 c k)
section CSK
variable {b : Nat → Int32} {t p i ws : Nat} {S S' S'' : zS}
theorem CK_rfl : CK S S i ws := ⟨cgS_rfl, fun _ _ => ⟨rfl, rfl, rfl⟩, fun _ _ _ _ => rfl, fun _ _ => rfl, fun _ _ => rfl, fun _ _ => rfl⟩
theorem CK_tr (h1 : CK S S' i ws) (h2 : CK S' S'' i ws) : CK S S'' i ws := by
  refine ⟨fun k a1 a2 => ?_, fun k hk => ?_, fun c k a1 a2 => (h2.2.2.1 c k a1 a2).trans (h1.2.2.1 c k a1 a2), fun k hk => (h2.2.2.2.1 k hk).trans (h1.2.2.2.1 k hk), fun k hk => (h2.2.2.2.2.1 k hk).trans (h1.2.2.2.2.1 k hk), fun c k => (h2.2.2.2.2.2 c k).trans (h1.2.2.2.2.2 c k)⟩
  · obtain ⟨x1, x2, x3, x4⟩ := h1.1 k a1 a2
    obtain ⟨y1, y2, y3, y4⟩ := h2.1 k a1 a2
    exact ⟨y1.trans x1, y2.trans x2, y3.trans x3, y4.trans x4⟩
  · obtain ⟨x1, x2, x3⟩ := h1.2.1 k hk
    obtain ⟨y1, y2, y3⟩ := h2.2.1 k hk
    exact ⟨y1.trans x1, y2.trans x2, y3.trans x3⟩
theorem CK_le {i' ws' : Nat} (h : CK S S' i ws) (hi : i' ≤ i) (hw : ws' ≤ ws) : CK S S' i' ws' := ⟨fun k a1 a2 => h.1 k a1 (by omega), fun k hk => h.2.1 k (by omega), h.2.2⟩
theorem CK_zi {c k : Nat} {v : Int32} (h : (c = 3) ∨ (4 ≤ c ∧ c ≤ 7 ∧ i ≤ k) ∨ (35 ≤ c ∧ c ≤ 37 ∧ ws ≤ k) ∨ (c = 34 ∧ k = 9) ∨ (c = 38 ∧ 2 ≤ k)) : CK S (zi S c k v) i ws := by
  have g : ∀ c' k', (c' = c → k' = k → False) → (zi S c k v).1 c' k' = S.1 c' k' := fun c' k' h' => by
    rw [zi_get, if_neg (fun z => h' z.1 z.2)]
  exact ⟨fun k' a1 a2 => ⟨g _ _ (by omega), g _ _ (by omega), g _ _ (by omega), g _ _ (by omega)⟩, fun k' hk => ⟨g _ _ (by omega), g _ _ (by omega), g _ _ (by omega)⟩, fun c' k' h1 h2 => g _ _ (by omega), fun k' hk => g _ _ (by omega), fun k' hk => g _ _ (by omega), fun _ _ => rfl⟩
theorem CK_cA {i0 : Nat} {x1 x2 x3 x4 : Int32} (h : i ≤ i0) : CK S (cA S i0 x1 x2 x3 x4) i ws :=
  CK_tr (CK_tr (CK_tr (CK_tr (CK_zi (by omega)) (CK_zi (by omega))) (CK_zi (by omega))) (CK_zi (by omega))) (CK_zi (by omega))
theorem CK_cF {f x : Int32} : CK S (cF S f x) i ws := CK_tr (CK_zi (by omega)) (CK_zi (by omega))
theorem CK_wS {b : Nat → Int32} {t p : Nat} : CK S (wS b t p S) i ws := CK_tr (CK_tr (CK_zi (by omega)) (CK_zi (by omega))) (CK_zi (by omega))
theorem np_ok (hp : p ≤ t) : wb b t (np b t p) ∧ te b t p ≤ np b t p ∧ np b t p ≤ t := ⟨gp_ok (te_le hp), gp_ge (te_le hp), gp_le (te_le hp)⟩
theorem np_gt (hp : p < t) : p < np b t p := Nat.lt_of_lt_of_le (te_gt hp) (np_ok (Nat.le_of_lt hp)).2.1
theorem CS_wS (h : CS b t p i ws S) : CS b t (np b t p) i ws (wS b t (np b t p) S) := by
  obtain ⟨h1, h2, h3, h4, h5, h6, h7, h8, h9, h10⟩ := h
  unfold wS
  refine ⟨by rw [zi_row (by decide), zi_row (by decide), zi_row (by decide)]; exact h1, ?_, ?_, ?_, zi_v, ?_, ?_, ?_, (np_ok h9.1).1, h10⟩
  · rw [zi_k (by decide), zi_k (by decide), zi_k (by decide)]; exact h2
  · rw [zi_k (by decide), zi_k (by decide)]; exact zi_v
  · rw [zi_k (by decide)]; exact zi_v
  · rw [zi_c (by decide), zi_c (by decide), zi_c (by decide)]; exact h6
  · rw [zi_c (by decide), zi_c (by decide), zi_c (by decide)]; exact h7
  · rw [zi_c (by decide), zi_c (by decide), zi_c (by decide)]; exact h8
theorem CS_o {c k : Nat} {v : Int32} (h : CS b t p i ws S) (hc : c ≠ 2 ∧ c ≠ 3 ∧ c ≠ 34 ∧ c ≠ 38) : CS b t p i ws (zi S c k v) := by
  obtain ⟨h1, h2, h3, h4, h5, h6, h7, h8, h9⟩ := h
  have g : ∀ c' k', c' ≠ c → (zi S c k v).1 c' k' = S.1 c' k' := fun c' k' h' => zi_c h'
  exact ⟨by rw [zi_row (fun e => hc.1 e.symm)]; exact h1, (g _ _ (by omega)).trans h2, (g _ _ (by omega)).trans h3, (g _ _ (by omega)).trans h4, (g _ _ (by omega)).trans h5, (g _ _ (by omega)).trans h6, (g _ _ (by omega)).trans h7, (g _ _ (by omega)).trans h8, h9⟩
theorem CS_i {i' : Nat} (h : CS b t p i ws S) : CS b t p i' ws (zi S 3 4 (nI i')) := by
  obtain ⟨h1, h2, h3, h4, h5, h6, h7, h8, h9⟩ := h
  exact ⟨by rw [zi_row (by decide)]; exact h1, by rw [zi_c (by decide)]; exact h2, by rw [zi_c (by decide)]; exact h3, by rw [zi_c (by decide)]; exact h4, by rw [zi_c (by decide)]; exact h5, zi_v, by rw [zi_k (by decide)]; exact h7, by rw [zi_c (by decide)]; exact h8, h9⟩
theorem CS_ws {v : Nat} (h : CS b t p i ws S) : CS b t p i v (zi S 34 9 (nI v)) := by
  obtain ⟨h1, h2, h3, h4, h5, h6, h7, h8, h9⟩ := h
  exact ⟨by rw [zi_row (by decide)]; exact h1, by rw [zi_c (by decide)]; exact h2, by rw [zi_c (by decide)]; exact h3, by rw [zi_c (by decide)]; exact h4, by rw [zi_c (by decide)]; exact h5, by rw [zi_c (by decide)]; exact h6, by rw [zi_c (by decide)]; exact h7, zi_v, h9⟩
theorem CS_cA {x1 x2 x3 x4 : Int32} (h : CS b t p i ws S) : CS b t p (i + 1) ws (cA S i x1 x2 x3 x4) :=
  CS_i (CS_o (CS_o (CS_o (CS_o h (by omega)) (by omega)) (by omega)) (by omega))
theorem cF_f {f x : Int32} : (cF S f x).1 3 5 = f ∧ (cF S f x).1 3 6 = x := by
  unfold cF
  exact ⟨by rw [zi_k (by decide)]; exact zi_v, zi_v⟩
theorem mF_f {f x : Int32} : (mF S f x).1 73 7 = f ∧ (mF S f x).1 73 8 = x := by
  unfold mF
  exact ⟨by rw [zi_k (by decide)]; exact zi_v, zi_v⟩
end CSK
section CM
variable {l : Launch} {Gr : zG} {n w : Nat} {d : Nat} {b : Nat → Int32} {t p i ws : Nat} {S : zS}
theorem w_adv (hg : ip_gk (lg_tbl, vwCl, Gr)) (ho : ip_old (lg_tbl, vwCl, Gr)) (h : CS b t p i ws S) : zMv l Gr (zc n w) 168 M_Words_advance (d + 5) [.ref 70] S (fun S' => S' = wS b t (np b t p) S) :=
  w_advance hg ho h.2.2.2.2.2.2.2.2.2 (te_le h.2.2.2.2.2.2.2.2.1.1) h.1 h.2.1 h.2.2.2.2.1
theorem w_expect (hg : ip_gk (lg_tbl, vwCl, Gr)) (ho : ip_old (lg_tbl, vwCl, Gr)) {c : Int32} (h : CS b t p i ws S) : zMv l Gr (zc n w) 168 M_Reader_expect (d + 6) [.ref 66, .int c] S (fun S' => (tk b t p = c ∧ S' = wS b t (np b t p) S) ∨ (¬ tk b t p = c ∧ S' = cF S 1 (nI p))) := by
  have f0 := h.2.2.2.2.2.2.1
  refine e_Reader_expect (b_Reader_expect_0 (fun z => ?_) (fun z => ?_))
  · rw [h.2.2.2.1] at z
    refine b_Reader_expect_26 (fun y => absurd f0 y) (fun _ => b_Reader_expect_36 hg (w_adv hg ho h) (fun S1 e => b_Reader_expect_43 ⟨rfl, Or.inl ⟨z, e⟩⟩))
  · rw [h.2.2.2.1] at z
    refine b_Reader_expect_11 hg (w_tell f0) (fun S1 e => ?_)
    rw [h.2.2.1] at e
    rw [e]
    exact b_Reader_expect_26 (fun _ => b_Reader_expect_43 ⟨rfl, Or.inr ⟨z, rfl⟩⟩) (fun y => absurd (cF_f.1.symm.trans y) (by decide))
theorem w_expectN (hg : ip_gk (lg_tbl, vwCl, Gr)) {c : Int32} (h : ¬ S.1 3 5 = 0) : zMv l Gr (zc n w) 168 M_Reader_expect (d + 6) [.ref 66, .int c] S (fun S' => S' = S) := by
  refine e_Reader_expect (b_Reader_expect_0 (fun z => b_Reader_expect_26 (fun _ => b_Reader_expect_43 ⟨rfl, rfl⟩) (fun y => absurd y h)) (fun z => b_Reader_expect_11 hg (w_tellN h) (fun S1 e => ?_)))
  rw [e]
  exact b_Reader_expect_26 (fun _ => b_Reader_expect_43 ⟨rfl, rfl⟩) (fun y => absurd y h)
theorem w_opens (hg : ip_gk (lg_tbl, vwCl, Gr)) (ho : ip_old (lg_tbl, vwCl, Gr)) {c : Int32} {dp : Nat} (hd : dp ≤ 30) (h : CS b t p i ws S) : zMi l Gr (zc n w) 168 M_Reader_opens (d + 6) [.ref 66, .int c, .int (nI dp)] S (fun v S' => (tk b t p = c ∧ dp < 30 ∧ v = 1 ∧ S' = wS b t (np b t p) S) ∨ (tk b t p = c ∧ dp = 30 ∧ v = 0 ∧ S' = cF S 3 (nI p)) ∨ (¬ tk b t p = c ∧ v = 0 ∧ S' = cF S 1 (nI p))) := by
  have f0 := h.2.2.2.2.2.2.1
  have bad : ∀ f : Int32, ¬ f = 0 → ∀ R : Int32 → zS → Prop, R 0 (cF S f (nI p)) → zW l Gr (zc n w) 168 M_Reader_opens (d + 6) 50 [some (.ref 66), none, none] [] (cF S f (nI p)) (fun v S' => ∃ x, v = some (.int x) ∧ (x = 0 ∨ x = 1) ∧ R x S') := fun f hf R hR =>
    b_Reader_opens_50 (fun _ => b_Reader_opens_67 (fun _ => b_Reader_opens_81 (b_Reader_opens_82 ⟨_, rfl, Or.inl rfl, hR⟩)) (fun y => absurd (cF_f.1.symm.trans y) hf)) (fun y => absurd (cF_f.1.symm.trans y) hf)
  refine e_Reader_opens (b_Reader_opens_0 (fun z => ?_) (fun z => ?_))
  · rw [h.2.2.2.1] at z
    refine b_Reader_opens_29 (fun q => ?_) (fun q => ?_)
    · have hd' : dp < 30 := (nI_ltI (a := dp) (b := 30) (by omega) (by omega)).mp q
      refine b_Reader_opens_50 (fun y => absurd f0 y) (fun _ => b_Reader_opens_60 hg (w_adv hg ho h) (fun S1 e => ?_))
      rw [e]
      exact b_Reader_opens_67 (fun y => absurd (CS_wS h).2.2.2.2.2.2.1 y) (fun _ => b_Reader_opens_77 (b_Reader_opens_82 ⟨_, rfl, Or.inr rfl, Or.inl ⟨z, hd', rfl, rfl⟩⟩))
    · have hd' : dp = 30 := by
        by_cases y : dp < 30
        · exact absurd (nI_lt (a := dp) (b := 30) y (by omega)) q
        · omega
      refine b_Reader_opens_35 hg (w_tell f0) (fun S1 e => ?_)
      rw [h.2.2.1] at e
      rw [e]
      exact bad 3 (by decide) _ (Or.inr (Or.inl ⟨z, hd', rfl, rfl⟩))
  · rw [h.2.2.2.1] at z
    refine b_Reader_opens_11 hg (w_tell f0) (fun S1 e => b_Reader_opens_26 ?_)
    rw [h.2.2.1] at e
    rw [e]
    exact bad 1 (by decide) _ (Or.inr (Or.inr ⟨z, rfl, rfl⟩))
theorem w_takeName (hg : ip_gk (lg_tbl, vwCl, Gr)) (ho : ip_old (lg_tbl, vwCl, Gr)) (h : CS b t p i ws S) : zMi l Gr (zc n w) 168 M_Reader_takeName (d + 6) [.ref 66] S (fun v S' => v = nI p ∧ ((tk b t p = 1 ∧ te b t p - p ≤ 16 ∧ S' = wS b t (np b t p) S) ∨ ((¬ tk b t p = 1 ∨ (tk b t p = 1 ∧ ¬ te b t p - p ≤ 16)) ∧ S' = cF S (if tk b t p = 1 then 2 else 1) (nI p)))) := by
  have f0 := h.2.2.2.2.2.2.1
  have hte := te_ge (b := b) h.2.2.2.2.2.2.2.2.1.1
  have hte2 := te_le (b := b) h.2.2.2.2.2.2.2.2.1.1
  have ht := h.2.2.2.2.2.2.2.2.2
  have bad : ∀ f : Int32, ¬ f = 0 → ∀ R : Int32 → zS → Prop, R (nI p) (cF S f (nI p)) → zW l Gr (zc n w) 168 M_Reader_takeName (d + 6) 54 [some (.ref 66), some (.int (nI p))] [] (cF S f (nI p)) (fun v S' => ∃ x, v = some (.int x) ∧ R x S') := fun f hf R hR =>
    b_Reader_takeName_54 (fun _ => b_Reader_takeName_71 ⟨_, rfl, hR⟩) (fun y => absurd (cF_f.1.symm.trans y) hf)
  refine e_Reader_takeName (b_Reader_takeName_0 (fun z => ?_) (fun z => ?_))
  · rw [h.2.2.2.1] at z
    rw [h.2.2.1]
    refine b_Reader_takeName_31 (fun q => ?_) (fun q => ?_)
    · rw [h.2.2.2.2.1, pk_sub hte] at q
      have hs : te b t p - p ≤ 16 := (nI_leI (a := te b t p - p) (b := 16) (by omega) (by omega)).mp q
      exact b_Reader_takeName_54 (fun y => absurd f0 y) (fun _ => b_Reader_takeName_64 hg (w_adv hg ho h) (fun S1 e => b_Reader_takeName_71 ⟨_, rfl, rfl, Or.inl ⟨z, hs, e⟩⟩))
    · rw [h.2.2.2.2.1, pk_sub hte] at q
      have hs : ¬ te b t p - p ≤ 16 := fun y => q (nI_le (a := te b t p - p) (b := 16) y (by omega))
      refine b_Reader_takeName_45 hg (w_tell f0) (fun S1 e => ?_)
      rw [e]
      refine bad 2 (by decide) (fun v S' => v = nI p ∧ _) ⟨rfl, Or.inr ⟨Or.inr ⟨z, hs⟩, ?_⟩⟩
      rw [if_pos z]
  · rw [h.2.2.2.1] at z
    rw [h.2.2.1]
    refine b_Reader_takeName_19 hg (w_tell f0) (fun S1 e => b_Reader_takeName_28 ?_)
    rw [e]
    refine bad 1 (by decide) (fun v S' => v = nI p ∧ _) ⟨rfl, Or.inr ⟨Or.inl z, ?_⟩⟩
    rw [if_neg z]
theorem re_dig {e : Nat} (hp : p ≤ t) (he : e = re pd b t p) : ∀ i, p ≤ i → i < e → isd (b i) := fun i h1 h2 => of_decide_eq_true ((re_all _ p rfl hp).2.2.1 i h1 (by rw [← he]; exact h2))
/-- a NUMBER between lo and hi; else FAULT 1 or 2 -/
theorem w_takeNumber (hg : ip_gk (lg_tbl, vwCl, Gr)) (ho : ip_old (lg_tbl, vwCl, Gr)) {lo hi : Nat} (hhi : hi ≤ 4294967295) (hlo : lo ≤ hi) (htx : ∀ k, k < t → tx (b k)) (h : CS b t p i ws S) : zMl l Gr (zc n w) 168 M_Reader_takeNumber (d + 6) [.ref 66, .long (lN lo), .long (lN hi)] S (fun v S' => (tk b t p = 2 ∧ te b t p - p ≤ 10 ∧ lo ≤ nv b p (te b t p - p) ∧ nv b p (te b t p - p) ≤ hi ∧ v = lN (nv b p (te b t p - p)) ∧ S' = wS b t (np b t p) S) ∨ (tk b t p = 2 ∧ ¬ (te b t p - p ≤ 10 ∧ lo ≤ nv b p (te b t p - p) ∧ nv b p (te b t p - p) ≤ hi) ∧ S' = cF S 2 (nI p)) ∨ (¬ tk b t p = 2 ∧ S' = cF S 1 (nI p))) := by
  have f0 := h.2.2.2.2.2.2.1
  have hp := h.2.2.2.2.2.2.2.2.1.1
  have hte := te_ge (b := b) hp
  have hte2 := te_le (b := b) hp
  have ht := h.2.2.2.2.2.2.2.2.2
  refine e_Reader_takeNumber (b_Reader_takeNumber_0 (fun z => ?_) (fun z => ?_))
  · rw [h.2.2.2.1] at z
    have et : te b t p = re pd b t p := by
      rcases tk_all htx hp with ⟨-, e, -, -⟩ | ⟨-, -, -, -, e⟩ | ⟨-, hl, el, e, -, -⟩ | ⟨hpt, hn, el, -, a1, a2⟩
      · rw [z] at e; exact absurd e (by decide)
      · exact e
      · exfalso
        rw [z] at e
        rcases wk_cases (wd b p (we b t p)) with w1 | ⟨k, hk, w1⟩
        · rw [w1] at e; exact absurd e (by decide)
        · rw [w1] at e
          exact absurd ((nI_eq (a := 2) (b := 200 + k) (by omega) (by omega)).mp e) (by omega)
      · exfalso
        have := (tk_d htx hp).mpr z
        rw [el] at this
        exact hn (Or.inr this)
    have hdg := re_dig (b := b) hp et
    have nvl := nv_lt (b := b) (p := p) (te b t p - p) (fun i hi => hdg (p + i) (by omega) (by omega))
    refine b_Reader_takeNumber_28 hg (w_number h.1 h.2.2.1 h.2.2.2.2.1 (by omega) hte hdg) (fun v S1 hv => ?_)
    rw [hv.1, hv.2]
    obtain ⟨V, eV⟩ : ∃ V, V = nv b p (te b t p - p) := ⟨_, rfl⟩
    rw [← eV] at nvl ⊢
    have bad : ∀ x : Int64, ¬ (te b t p - p ≤ 10 ∧ lo ≤ V ∧ V ≤ hi) → zW l Gr (zc n w) 168 M_Reader_takeNumber (d + 6) 51 [some (.ref 66), none, none, none, none, some (.long x), none] [] S (fun v S' => ∃ x, v = some (.long x) ∧ ((tk b t p = 2 ∧ te b t p - p ≤ 10 ∧ lo ≤ V ∧ V ≤ hi ∧ x = lN V ∧ S' = wS b t (np b t p) S) ∨ (tk b t p = 2 ∧ ¬ (te b t p - p ≤ 10 ∧ lo ≤ V ∧ V ≤ hi) ∧ S' = cF S 2 (nI p)) ∨ (¬ tk b t p = 2 ∧ S' = cF S 1 (nI p)))) := fun x y => by
      refine b_Reader_takeNumber_51 hg (w_tell f0) (fun S1 e => ?_)
      rw [h.2.2.1] at e
      rw [e]
      exact b_Reader_takeNumber_66 (fun _ => b_Reader_takeNumber_83 ⟨_, rfl, Or.inr (Or.inl ⟨z, y, rfl⟩)⟩) (fun q => absurd (cF_f.1.symm.trans q) (by decide))
    by_cases c : te b t p - p ≤ 10 ∧ V ≤ 4294967295
    · rw [if_pos c]
      have hV : V < 2 ^ 63 := by omega
      refine b_Reader_takeNumber_35 (fun q => bad _ (fun y => ?_)) (fun q => b_Reader_takeNumber_44 (fun q2 => ?_) (fun q2 => bad _ (fun y => ?_)))
      · rw [lg_cmp_lt, pk_lLT hV (by omega)] at q
        omega
      · rw [lg_cmp_lt, pk_lLT hV (by omega)] at q
        rw [lg_cmp_le, pk_lLE hV (by omega)] at q2
        exact b_Reader_takeNumber_66 (fun y => absurd f0 y) (fun _ => b_Reader_takeNumber_76 hg (w_adv hg ho h) (fun S1 e => b_Reader_takeNumber_83 ⟨_, rfl, Or.inl ⟨z, c.1, by omega, q2, rfl, e⟩⟩))
      · rw [lg_cmp_le, pk_lLE hV (by omega)] at q2
        exact q2 y.2.2
    · rw [if_neg c]
      have nb : ¬ (te b t p - p ≤ 10 ∧ lo ≤ V ∧ V ≤ hi) := fun y => c ⟨y.1, by omega⟩
      refine b_Reader_takeNumber_35 (fun _ => bad _ nb) (fun q => ?_)
      exfalso
      apply q
      rw [lg_cmp_lt]
      have : (0 : Int64) ≤ lN lo := by
        rw [show (0 : Int64) = lN 0 from rfl, pk_lLE (by decide) (by omega)]
        exact Nat.zero_le _
      exact Int64.lt_of_lt_of_le (show (-1 : Int64) < 0 by decide) this
  · rw [h.2.2.2.1] at z
    refine b_Reader_takeNumber_11 hg (w_tell f0) (fun S1 e => ?_)
    rw [h.2.2.1] at e
    exact b_Reader_takeNumber_26 ⟨_, rfl, Or.inr (Or.inr ⟨z, e⟩)⟩
theorem w_takeSort (hg : ip_gk (lg_tbl, vwCl, Gr)) (ho : ip_old (lg_tbl, vwCl, Gr)) (h : CS b t p i ws S) : zMi l Gr (zc n w) 168 M_Reader_takeSort (d + 6) [.ref 66] S (fun v S' => v = (if tk b t p = 210 then 1 else 0) ∧ (((tk b t p = 209 ∨ tk b t p = 210) ∧ S' = wS b t (np b t p) S) ∨ (¬ (tk b t p = 209 ∨ tk b t p = 210) ∧ S' = cF S 1 (nI p)))) := by
  have f0 := h.2.2.2.2.2.2.1
  have adv : ∀ v : Int32, v = (if tk b t p = 210 then 1 else 0) → (tk b t p = 209 ∨ tk b t p = 210) → zW l Gr (zc n w) 168 M_Reader_takeSort (d + 6) 51 [some (.ref 66), some (.int v)] [] S (fun v S' => ∃ x, v = some (.int x) ∧ x = (if tk b t p = 210 then 1 else 0) ∧ (((tk b t p = 209 ∨ tk b t p = 210) ∧ S' = wS b t (np b t p) S) ∨ (¬ (tk b t p = 209 ∨ tk b t p = 210) ∧ S' = cF S 1 (nI p)))) := fun v ev hv =>
    b_Reader_takeSort_51 (fun y => absurd f0 y) (fun _ => b_Reader_takeSort_61 hg (w_adv hg ho h) (fun S1 e => b_Reader_takeSort_68 ⟨_, rfl, ev, Or.inl ⟨hv, e⟩⟩))
  refine e_Reader_takeSort (b_Reader_takeSort_0 (fun z => ?_) (fun z => ?_))
  · rw [h.2.2.2.1] at z
    refine b_Reader_takeSort_17 (b_Reader_takeSort_18 (fun y => absurd rfl y) (fun _ => b_Reader_takeSort_23 (fun z2 => ?_) (fun z2 => ?_)))
    · rw [h.2.2.2.1] at z2
      exact adv 0 (by rw [if_neg z]) (Or.inl z2)
    · rw [h.2.2.2.1] at z2
      refine b_Reader_takeSort_36 hg (w_tell f0) (fun S1 e => ?_)
      rw [h.2.2.1] at e
      rw [e]
      exact b_Reader_takeSort_51 (fun _ => b_Reader_takeSort_68 ⟨_, rfl, by rw [if_neg z], Or.inr ⟨fun y => y.elim z2 z, rfl⟩⟩) (fun q => absurd (cF_f.1.symm.trans q) (by decide))
  · rw [h.2.2.2.1] at z
    exact b_Reader_takeSort_13 (b_Reader_takeSort_18 (fun _ => adv 1 (by rw [if_pos z]) (Or.inr z)) (fun y => absurd y (by decide)))
end CM
