/-! a TYPE on both sides -/
def TYS (b : Nat → Int32) (t p r : Nat) : Prop := (tk b t p = 209 ∧ r = 0) ∨ (tk b t p = 210 ∧ r = 1)
def TYN (b : Nat → Int32) (t p2 z : Nat) : Prop := tk b t p2 = 2 ∧ te b t p2 - p2 ≤ 10 ∧ 1 ≤ z ∧ z ≤ 64 ∧ z = nv b p2 (te b t p2 - p2)
/-- a TYPE at p, of sort r and size z, ahead of p' -/
def TYO (b : Nat → Int32) (t p r z p' : Nat) : Prop := TYS b t p r ∧ ((¬ tk b t (np b t p) = 91 ∧ z = 0 ∧ p' = np b t p) ∨ (tk b t (np b t p) = 91 ∧ TYN b t (np b t (np b t p)) z ∧ tk b t (np b t (np b t (np b t p))) = 93 ∧ p' = np b t (np b t (np b t (np b t p)))))
/-- none: a FAULT f at pl -/
def TYF (b : Nat → Int32) (t p f pl : Nat) : Prop := (¬ (tk b t p = 209 ∨ tk b t p = 210) ∧ f = 1 ∧ pl = p) ∨ ((∃ r, TYS b t p r) ∧ tk b t (np b t p) = 91 ∧ ((¬ tk b t (np b t (np b t p)) = 2 ∧ f = 1 ∧ pl = np b t (np b t p)) ∨ (tk b t (np b t (np b t p)) = 2 ∧ (¬ ∃ z, TYN b t (np b t (np b t p)) z) ∧ f = 2 ∧ pl = np b t (np b t p)) ∨ ((∃ z, TYN b t (np b t (np b t p)) z) ∧ ¬ tk b t (np b t (np b t (np b t p))) = 93 ∧ f = 1 ∧ pl = np b t (np b t (np b t p)))))
section TY
variable {l : Launch} {Gr : zG} {n w : Nat} {d : Nat} {b : Nat → Int32} {t p i ws dp p' i' q j m N X u k : Nat} {S S' T T' : zS}
theorem TYS_of (h : tk b t p = 209 ∨ tk b t p = 210) : TYS b t p (if tk b t p = 210 then 1 else 0) := by
  rcases h with h | h
  · left; exact ⟨h, by rw [if_neg (by rw [h]; decide)]⟩
  · right; exact ⟨h, by rw [if_pos h]⟩
theorem TYS_k (h : TYS b t p u) : (tk b t p = 209 ∨ tk b t p = 210) ∧ u ≤ 1 ∧ (if tk b t p = 210 then (1 : Int32) else 0) = nI u := by
  rcases h with ⟨h, e⟩ | ⟨h, e⟩
  · subst e; exact ⟨Or.inl h, by omega, by rw [if_neg (by rw [h]; decide)]; rfl⟩
  · subst e; exact ⟨Or.inr h, by omega, by rw [if_pos h]; rfl⟩
theorem TYO_le (hp : p ≤ t) (htx : ∀ k, k < t → tx (b k)) {r z : Nat} (h : TYO b t p r z p') : p + 3 ≤ p' ∧ p' ≤ t ∧ r ≤ 1 ∧ z ≤ 64 := by
  obtain ⟨hk, hr, -⟩ := TYS_k h.1
  have e3 := wd_len3 hp htx hk
  have n1 := np_ok (b := b) hp
  have n2 := np_ok (b := b) n1.2.2
  have n3 := np_ok (b := b) n2.2.2
  have n4 := np_ok (b := b) n3.2.2
  have g2 := te_ge (b := b) n1.2.2
  have g3 := te_ge (b := b) n2.2.2
  have g4 := te_ge (b := b) n3.2.2
  rcases h.2 with ⟨-, ez, e⟩ | ⟨-, hz, -, e⟩
  · omega
  · have := hz.2.2.2.1
    omega
theorem ip_max1 {z : Nat} (hz : z ≤ 64) : ip_max 1 (nI z) = nI (max 1 z) := by
  unfold ip_max
  by_cases y : z = 0
  · subst y; decide
  · rw [show max 1 z = z by omega]
    by_cases x : z = 1
    · subst x; decide
    · exact if_pos (nI_lt (a := 1) (b := z) (by omega) (by omega))
theorem w_typed (hg : ip_gk (lg_tbl, vwCl, Gr)) (ho : ip_old (lg_tbl, vwCl, Gr)) (htx : ∀ k, k < t → tx (b k)) {kd : Int32} {s o D : Nat} (h : CS b t p i ws S) (h81 : S.1 8 1 = nI t) (h89 : S.1 8 9 = nI D) (hD : D < 800) (hs : s ≤ t) (hoo : o ≤ 256) : zMi l Gr (zc n w) 168 M_Reader_takeTyped (d + 8) [.ref 66, .int kd, .int (nI s), .int (nI o)] S (fun v S' =>
    (∃ r z p' S1, TYO b t p r z p' ∧ o + max 1 z ≤ 256 ∧ v = nI D ∧ CS b t p' i ws S1 ∧ CK S S1 i ws ∧ S' = nA S1 D kd (nI s) (nI (re pn b t s)) (nI r) (nI z) (nI o)) ∨
    (∃ r z p' S1, TYO b t p r z p' ∧ ¬ o + max 1 z ≤ 256 ∧ CK S S1 0 0 ∧ S' = cF S1 2 (nI s)) ∨
    (∃ f pl S1, TYF b t p f pl ∧ ¬ f = 0 ∧ f ≤ 2 ∧ CK S S1 0 0 ∧ S' = cF S1 (nI f) (nI pl))) := by
  have f0 := CS_f h
  have fin : ∀ (v0 : Int32) (x5 : Int32) (X : zS) (R : Int32 → zS → Prop), ¬ X.1 3 5 = 0 → R (-1) X → zW l Gr (zc n w) 168 M_Reader_takeTyped (d + 8) 55 [some (.ref 66), some (.int kd), some (.int (nI s)), some (.int (nI o)), some (.int v0), some (.int x5)] [] X (fun v S' => ∃ x, v = some (.int x) ∧ R x S') := fun v0 x5 X R hX hR =>
    b_Reader_takeTyped_55 (fun _ => b_Reader_takeTyped_88 (fun _ => b_Reader_takeTyped_115 (b_Reader_takeTyped_116 ⟨_, rfl, hR⟩)) (fun z => absurd z hX)) (fun z => absurd z hX)
  have good : ∀ (r z p' : Nat) (X : zS) (R : Int32 → zS → Prop), r ≤ 1 → z ≤ 64 → CS b t p' i ws X → CK S X i ws → (o + max 1 z ≤ 256 → R (nI D) (nA X D kd (nI s) (nI (re pn b t s)) (nI r) (nI z) (nI o))) → (¬ o + max 1 z ≤ 256 → R (-1) (cF X 2 (nI s))) → zW l Gr (zc n w) 168 M_Reader_takeTyped (d + 8) 55 [some (.ref 66), some (.int kd), some (.int (nI s)), some (.int (nI o)), some (.int (nI r)), some (.int (nI z))] [] X (fun v S' => ∃ x, v = some (.int x) ∧ R x S') := fun r z p' X R hr hz hX hK hy hn => by
    have x81 : X.1 8 1 = nI t := by rw [hK.2.2.1 8 1 (by omega) (by omega)]; exact h81
    have x89 : X.1 8 9 = nI D := by rw [hK.2.2.1 8 9 (by omega) (by omega)]; exact h89
    refine b_Reader_takeTyped_55 (fun y => absurd (CS_f hX) y) (fun _ => b_Reader_takeTyped_65 (fun y => ?_) (fun y => ?_))
    · rw [ip_max1 hz, nI_add] at y
      have hle : o + max 1 z ≤ 256 := (nI_leI (a := o + max 1 z) (b := 256) (by omega) (by omega)).mp y
      exact b_Reader_takeTyped_88 (fun y => absurd (CS_f hX) y) (fun _ => b_Reader_takeTyped_98 hg (w_nadd (b := b) hg (CS_t h) hX.1 x81 x89 hD hs) (fun v A hv => b_Reader_takeTyped_112 (b_Reader_takeTyped_116 ⟨_, rfl, by rw [hv.1, hv.2]; exact hy hle⟩)))
    · rw [ip_max1 hz, nI_add] at y
      have hle : ¬ o + max 1 z ≤ 256 := fun x => y (nI_le (a := o + max 1 z) (b := 256) x (by omega))
      refine b_Reader_takeTyped_79 hg (w_tell (CS_f hX)) (fun A e => ?_)
      rw [e]
      exact b_Reader_takeTyped_88 (fun _ => b_Reader_takeTyped_115 (b_Reader_takeTyped_116 ⟨_, rfl, hn hle⟩)) (fun y => absurd (cF_f.1.symm.trans y) (by decide))
  refine e_Reader_takeTyped (b_Reader_takeTyped_0 hg (w_takeSort hg ho h) (fun v S1 hv => ?_))
  obtain ⟨ev, hv⟩ := hv
  rcases hv with ⟨hk, e1⟩ | ⟨hk, e1⟩
  · have hS := TYS_of hk
    obtain ⟨-, hr, er⟩ := TYS_k hS
    rw [er] at ev
    obtain ⟨r, eR⟩ : ∃ r, r = (if tk b t p = 210 then 1 else 0) := ⟨_, rfl⟩
    rw [← eR] at ev hS hr
    rw [ev, e1]
    have h1 := CS_wS h
    refine b_Reader_takeTyped_4 (fun y => absurd (CS_f h1) y) (fun _ => b_Reader_takeTyped_19 (fun z => ?_) (fun z => ?_))
    · rw [CS_k h1] at z
      exact good r 0 _ _ _ hr (by omega) h1 CK_wS (fun y => Or.inl ⟨r, 0, _, _, ⟨hS, Or.inl ⟨z, rfl, rfl⟩⟩, y, rfl, h1, CK_wS, rfl⟩) (fun y => Or.inr (Or.inl ⟨r, 0, _, _, ⟨hS, Or.inl ⟨z, rfl, rfl⟩⟩, y, CK_wS, rfl⟩))
    · rw [CS_k h1] at z
      refine b_Reader_takeTyped_31 hg (w_adv hg ho h1) (fun S2 e2 => ?_)
      rw [e2]
      have h2 := CS_wS h1
      have ck2 : CK S (wS b t (np b t (np b t p)) (wS b t (np b t p) S)) i ws := CK_tr CK_wS CK_wS
      refine b_Reader_takeTyped_38 hg (w_takeNumber (lo := 1) (hi := 64) hg ho (by decide) (by decide) htx h2) (fun v S3 hv => ?_)
      rcases hv with ⟨k2, hl, z1, z2, ev, e3⟩ | ⟨k2, hb, e3⟩ | ⟨k2, e3⟩
      · obtain ⟨z', ez⟩ : ∃ z', z' = nv b (np b t (np b t p)) (te b t (np b t (np b t p)) - np b t (np b t p)) := ⟨_, rfl⟩
        rw [← ez] at z1 z2 ev
        have hN : TYN b t (np b t (np b t p)) z' := ⟨k2, hl, z1, z2, ez⟩
        have h3 := CS_wS h2
        rw [e3]
        refine b_Reader_takeTyped_46 hg (w_expect hg ho h3) (fun S4 h4 => ?_)
        rw [ev, lN_i]
        rcases h4 with ⟨k4, e4⟩ | ⟨k4, e4⟩
        · rw [e4]
          have h4 := CS_wS h3
          exact good r z' _ _ _ hr z2 h4 (CK_tr ck2 (CK_tr CK_wS CK_wS)) (fun y => Or.inl ⟨r, z', _, _, ⟨hS, Or.inr ⟨z, hN, k4, rfl⟩⟩, y, rfl, h4, CK_tr ck2 (CK_tr CK_wS CK_wS), rfl⟩) (fun y => Or.inr (Or.inl ⟨r, z', _, _, ⟨hS, Or.inr ⟨z, hN, k4, rfl⟩⟩, y, CK_le (CK_tr ck2 (CK_tr CK_wS CK_wS)) (Nat.zero_le _) (Nat.zero_le _), rfl⟩))
        · rw [e4]
          exact fin _ _ _ _ (by rw [cF_f.1]; decide) (Or.inr (Or.inr ⟨1, _, _, Or.inr ⟨⟨r, hS⟩, z, Or.inr (Or.inr ⟨⟨z', hN⟩, k4, rfl, rfl⟩)⟩, by decide, by decide, CK_le (CK_tr ck2 CK_wS) (Nat.zero_le _) (Nat.zero_le _), rfl⟩))
      · rw [e3]
        have f3 : ¬ (cF (wS b t (np b t (np b t p)) (wS b t (np b t p) S)) 2 (nI (np b t (np b t p)))).1 3 5 = 0 := by rw [cF_f.1]; decide
        refine b_Reader_takeTyped_46 hg (w_expectN hg f3) (fun S4 e4 => ?_)
        rw [e4]
        refine fin _ _ _ _ f3 (Or.inr (Or.inr ⟨2, _, _, Or.inr ⟨⟨r, hS⟩, z, Or.inr (Or.inl ⟨k2, ?_, rfl, rfl⟩)⟩, by decide, by decide, CK_le ck2 (Nat.zero_le _) (Nat.zero_le _), rfl⟩))
        rintro ⟨z', y⟩
        exact hb ⟨y.2.1, by rw [← y.2.2.2.2]; exact y.2.2.1, by rw [← y.2.2.2.2]; exact y.2.2.2.1⟩
      · rw [e3]
        have f3 : ¬ (cF (wS b t (np b t (np b t p)) (wS b t (np b t p) S)) 1 (nI (np b t (np b t p)))).1 3 5 = 0 := by rw [cF_f.1]; decide
        refine b_Reader_takeTyped_46 hg (w_expectN hg f3) (fun S4 e4 => ?_)
        rw [e4]
        exact fin _ _ _ _ f3 (Or.inr (Or.inr ⟨1, _, _, Or.inr ⟨⟨r, hS⟩, z, Or.inl ⟨k2, rfl, rfl⟩⟩, by decide, by decide, CK_le ck2 (Nat.zero_le _) (Nat.zero_le _), rfl⟩))
  · rw [e1]
    have f1 : ¬ (cF S 1 (nI p)).1 3 5 = 0 := by rw [cF_f.1]; decide
    exact b_Reader_takeTyped_4 (fun _ => fin _ _ _ _ f1 (Or.inr (Or.inr ⟨1, p, S, Or.inl ⟨hk, rfl, rfl⟩, by decide, by decide, CK_rfl, rfl⟩))) (fun y => absurd y f1)
theorem w_takeSortN (hg : ip_gk (lg_tbl, vwCl, Gr)) (h : ¬ S.1 3 5 = 0) : zMi l Gr (zc n w) 168 M_Reader_takeSort (d + 6) [.ref 66] S (fun _ S' => S' = S) := by
  have adv : ∀ v : Int32, zW l Gr (zc n w) 168 M_Reader_takeSort (d + 6) 51 [some (.ref 66), some (.int v)] [] S (fun v S' => ∃ x, v = some (.int x) ∧ S' = S) := fun v => b_Reader_takeSort_51 (fun _ => b_Reader_takeSort_68 ⟨_, rfl, rfl⟩) (fun y => absurd y h)
  refine e_Reader_takeSort (b_Reader_takeSort_0 (fun z => ?_) (fun z => ?_))
  · refine b_Reader_takeSort_17 (b_Reader_takeSort_18 (fun y => absurd rfl y) (fun _ => b_Reader_takeSort_23 (fun z2 => adv _) (fun z2 => ?_)))
    refine b_Reader_takeSort_36 hg (w_tellN h) (fun S1 e => ?_)
    rw [e]
    exact adv _
  · exact b_Reader_takeSort_13 (b_Reader_takeSort_18 (fun _ => adv _) (fun y => absurd y (by decide)))
theorem w_typedN (hg : ip_gk (lg_tbl, vwCl, Gr)) {x1 x2 x3 : Int32} (h : ¬ S.1 3 5 = 0) : zMi l Gr (zc n w) 168 M_Reader_takeTyped (d + 8) [.ref 66, .int x1, .int x2, .int x3] S (fun v S' => v = -1 ∧ S' = S) := by
  refine e_Reader_takeTyped (b_Reader_takeTyped_0 hg (w_takeSortN hg h) (fun v S1 e => ?_))
  rw [e]
  exact b_Reader_takeTyped_4 (fun _ => b_Reader_takeTyped_55 (fun _ => b_Reader_takeTyped_88 (fun _ => b_Reader_takeTyped_115 (b_Reader_takeTyped_116 ⟨_, rfl, rfl, rfl⟩)) (fun z => absurd z h)) (fun z => absurd z h)) (fun z => absurd z h)
/-- what stays of the reference's counters -/
def P3 (T T' : zS) : Prop := T'.1 73 26 = T.1 73 26 ∧ T'.1 73 29 = T.1 73 29 ∧ T'.1 73 30 = T.1 73 30
theorem P3_rfl : P3 T T := ⟨rfl, rfl, rfl⟩
theorem P3_tr {T'' : zS} (h1 : P3 T T') (h2 : P3 T' T'') : P3 T T'' := ⟨h2.1.trans h1.1, h2.2.1.trans h1.2.1, h2.2.2.trans h1.2.2⟩
theorem P3_zi {c a : Nat} {v : Int32} (h : c ≠ 73 ∨ (a ≠ 26 ∧ a ≠ 29 ∧ a ≠ 30)) : P3 T (zi T c a v) := by
  have g : ∀ a', (a' = 26 ∨ a' = 29 ∨ a' = 30) → (zi T c a v).1 73 a' = T.1 73 a' := fun a' ha => by
    rw [zi_get, if_neg (by omega)]
  exact ⟨g 26 (by omega), g 29 (by omega), g 30 (by omega)⟩
theorem P3_MK (h : MK b t T T' j m) : P3 T T' := ⟨h.2.2.2.1 26 (by omega), h.2.2.2.1 29 (by omega), h.2.2.2.1 30 (by omega)⟩
theorem P3_zj {c a : Nat} {v : Int64} : P3 T (zj T c a v) := ⟨rfl, rfl, rfl⟩
theorem isd_tk (htx : ∀ k, k < t → tx (b k)) (hp : p ≤ t) (h : tk b t p = 2) : te b t p = re pd b t p := by
  rcases tk_all htx hp with ⟨-, e, -, -⟩ | ⟨-, -, -, -, e⟩ | ⟨-, hl, el, e, -, -⟩ | ⟨hpt, hn, el, -, a1, a2⟩
  · rw [h] at e; exact absurd e (by decide)
  · exact e
  · exfalso
    rw [h] at e
    rcases wk_cases (wd b p (we b t p)) with w1 | ⟨k, hk, w1⟩
    · rw [w1] at e; exact absurd e (by decide)
    · rw [w1] at e
      exact absurd ((nI_eq (a := 2) (b := 200 + k) (by omega) (by omega)).mp e) (by omega)
  · exfalso
    have := (tk_d htx hp).mpr h
    rw [el] at this
    exact hn (Or.inr this)
/-- the reference's type(): what is behind sortWord() -/
theorem wm_typeA (hg : ip_gk (lg_tbl, vwCl, Gr)) (ho : ip_old (lg_tbl, vwCl, Gr)) (htx : ∀ k, k < t → tx (b k)) (h : MC b t q j dp m N T) (hgq : gp b t q = p) {r : Nat} (hS : TYS b t p r) {R : zS → Prop} {T1 : zS} (eT : T1 = zi (zi (zi (zi T 73 6 (nI p)) 73 32 (nI r)) 73 6 (nI (p + 3))) 73 31 0)
    (k : zW l Gr (zc n w) 168 M_Mo_type (d + 6) 21 [some (.ref 105)] [] (zi T1 73 6 (nI (np b t p))) (fun v S' => v = none ∧ R S')) : zMv l Gr (zc n w) 168 M_Mo_type (d + 6) [.ref 105] T R := by
  obtain ⟨hk, hr, er⟩ := TYS_k hS
  have h1 := MC_p h hgq
  have hp := MC_p2 h1
  have e3 := wd_len3 hp htx hk
  have hle := te_le (b := b) hp
  refine e_Mo_type (b_Mo_type_0 hg (wm_sortWord hg ho htx h.1 hgq (MC_f h)) (fun A hA => ?_))
  rcases hA with ⟨-, e⟩ | ⟨y, -⟩
  · rw [e, er]
    have m1 : MC b t (p + 3) j dp m N T1 := by rw [eT]; exact MC_x (MC_at (MC_x h1 (by omega)) (by omega)) (by omega)
    refine b_Mo_type_4 (fun _ => ?_) (fun y => ?_)
    · rw [← eT]
      refine b_Mo_type_17 hg (wm_gap hg m1.1) (fun A e => ?_)
      rw [e, show gp b t (p + 3) = np b t p by rw [np, e3]]
      exact k
    · exfalso
      apply y
      rw [zi_k (by decide), zi_k (by decide), zi_k (by decide), MC_f h]
      exact Int32.le_refl _
  · exact absurd hk y
theorem wm_type (hg : ip_gk (lg_tbl, vwCl, Gr)) (ho : ip_old (lg_tbl, vwCl, Gr)) (htx : ∀ k, k < t → tx (b k)) (h : MC b t q j dp m N T) (hgq : gp b t q = p) {r z : Nat} (hT : TYO b t p r z p') : ∃ Y q', zMv l Gr (zc n w) 168 M_Mo_type (d + 6) [.ref 105] T (fun A => A = Y) ∧ MC b t q' j dp m N Y ∧ gp b t q' = p' ∧ p + 3 ≤ q' ∧ Y.1 73 31 = nI z ∧ Y.1 73 32 = nI r ∧ P3 T Y ∧ ∀ a k, PK b t T Y a k := by
  obtain ⟨hS, hT⟩ := hT
  obtain ⟨hk, hr, er⟩ := TYS_k hS
  have h1 := MC_p h hgq
  have hp := MC_p2 h1
  have e3 := wd_len3 hp htx hk
  have hle := te_le (b := b) hp
  obtain ⟨T1, eT⟩ : ∃ T1, T1 = zi (zi (zi (zi T 73 6 (nI p)) 73 32 (nI r)) 73 6 (nI (p + 3))) 73 31 0 := ⟨_, rfl⟩
  have m1 : MC b t (p + 3) j dp m N T1 := by rw [eT]; exact MC_x (MC_at (MC_x h1 (by omega)) (by omega)) (by omega)
  have p31 : P3 T T1 := by rw [eT]; exact P3_tr (P3_tr (P3_tr (P3_zi (by omega)) (P3_zi (by omega))) (P3_zi (by omega))) (P3_zi (by omega))
  have pk1 : ∀ a k, PK b t T T1 a k := fun a k => by rw [eT]; exact PK_tr (PK_tr (PK_tr (PK_zi (by omega)) (PK_zi (by omega))) (PK_zi (by omega))) (PK_zi (by omega))
  have t32 : T1.1 73 32 = nI r := by rw [eT, zi_k (by decide), zi_k (by decide)]; exact zi_v
  have t31 : T1.1 73 31 = 0 := by rw [eT]; exact zi_v
  have n1 := np_ok (b := b) hp
  have m2 : MC b t (np b t p) j dp m N (zi T1 73 6 (nI (np b t p))) := MC_at m1 n1.2.2
  rcases hT with ⟨k1, ez, ep⟩ | ⟨k1, hN, k3, ep⟩
  · subst ez ep
    refine ⟨zi T1 73 6 (nI (np b t p)), np b t p, wm_typeA hg ho htx h hgq hS eT (b_Mo_type_21 hg (wm_isSign hg m2.1) (fun v A hv => ?_)), m2, gp_wb n1.1, by omega, by rw [zi_k (by decide)]; exact t31, by rw [zi_k (by decide)]; exact t32, P3_tr p31 (P3_zi (by omega)), fun a k => PK_tr (pk1 a k) (PK_zi (by omega))⟩
    rw [hv.1, hv.2, if_neg (fun y => k1 ((tk_sg htx n1.2.2 (by decide) (by decide) (by decide)).mp y))]
    exact b_Mo_type_27 (fun _ => b_Mo_type_70 ⟨rfl, rfl⟩) (fun z => absurd rfl z)
  · obtain ⟨p1, e1⟩ : ∃ p1, p1 = np b t p := ⟨_, rfl⟩
    rw [← e1] at k1 hN k3 ep n1 m2
    obtain ⟨te1, lt1⟩ := te_s htx n1.2.2 (c := 91) (by decide) (by decide) (by decide) k1
    have n2 := np_ok (b := b) n1.2.2
    obtain ⟨p2, e2⟩ : ∃ p2, p2 = np b t p1 := ⟨_, rfl⟩
    rw [← e2] at hN k3 ep n2
    obtain ⟨k2, hl, z1, z2, ez⟩ := hN
    have etd := isd_tk htx n2.2.2 k2
    have gte2 := te_ge (b := b) n2.2.2
    have n3 := np_ok (b := b) n2.2.2
    obtain ⟨p3, e3'⟩ : ∃ p3, p3 = np b t p2 := ⟨_, rfl⟩
    rw [← e3'] at k3 ep n3
    obtain ⟨te3, lt3⟩ := te_s htx n3.2.2 (c := 93) (by decide) (by decide) (by decide) k3
    have g12 : gp b t (p1 + 1) = p2 := by rw [e2, np, te1]
    have m3 : MC b t (p1 + 1) j dp m N (zi (zi T1 73 6 (nI p1)) 73 6 (nI (p1 + 1))) := MC_at m2 (by omega)
    obtain ⟨Z, eZ⟩ : ∃ Z, Z = zi (zj (zi (zi T1 73 6 (nI p1)) 73 6 (nI (p1 + 1))) 73 12 (lN (nv b p2 (min (re pd b t p2 - p2) 10)))) 73 6 (nI (re pd b t p2)) := ⟨_, rfl⟩
    have mZ : MC b t (te b t p2) j dp m N Z := by rw [eZ, ← etd]; exact MC_at (MC_zj m3) (te_le n2.2.2)
    have zv : Z.2 73 12 = lN z := by
      rw [eZ]
      show (zj (zi (zi T1 73 6 (nI p1)) 73 6 (nI (p1 + 1))) 73 12 (lN (nv b p2 (min (re pd b t p2 - p2) 10)))).2 73 12 = _
      rw [zj_get, if_pos ⟨rfl, rfl⟩, ← etd, Nat.min_eq_left hl, ← ez]
    have g7 := MC_f mZ
    have m4 : MC b t (te b t p2) j dp m N (zi Z 73 31 (nI z)) := MC_x mZ (by omega)
    have pkZ : ∀ a k, PK b t T1 (zi (zi Z 73 31 (nI z)) 73 6 (nI (p3 + 1))) a k := fun a k => by
      rw [eZ]
      exact PK_tr (PK_tr (PK_tr (PK_tr (PK_tr (PK_zi (by omega)) (PK_zi (by omega))) (PK_zj (by omega))) (PK_zi (by omega))) (PK_zi (by omega))) (PK_zi (by omega))
    have p3Z : P3 T1 (zi (zi Z 73 31 (nI z)) 73 6 (nI (p3 + 1))) := by
      rw [eZ]
      exact P3_tr (P3_tr (P3_tr (P3_tr (P3_tr (P3_zi (by omega)) (P3_zi (by omega))) P3_zj) (P3_zi (by omega))) (P3_zi (by omega))) (P3_zi (by omega))
    have z32 : Z.1 73 32 = nI r := by
      rw [eZ, zi_k (by decide)]
      show (zi (zi T1 73 6 (nI p1)) 73 6 (nI (p1 + 1))).1 73 32 = _
      rw [zi_k (by decide), zi_k (by decide)]; exact t32
    refine ⟨zi (zi Z 73 31 (nI z)) 73 6 (nI (p3 + 1)), p3 + 1, wm_typeA hg ho htx h hgq hS eT (b_Mo_type_21 hg (wm_isSign hg (by rw [← e1]; exact m2.1)) (fun v A hv => ?_)), MC_at m4 (by omega), by rw [ep, np, te3], by omega, by rw [zi_k (by decide)]; exact zi_v, by rw [zi_k (by decide), zi_k (by decide)]; exact z32, P3_tr p31 p3Z, fun a k => PK_tr (pk1 a k) (pkZ a k)⟩
    rw [← e1] at hv
    rw [hv.1, hv.2, if_pos ((tk_sg htx n1.2.2 (by decide) (by decide) (by decide)).mpr k1)]
    refine b_Mo_type_27 (fun z => absurd z (by decide)) (fun _ => ?_)
    refine b_Mo_type_30 (R := fun A => A = Z) hg ?_ (fun A e => ?_)
    · rw [MC_6 m2, nI_1]
      have := wm_number (l := l) (Gr := Gr) (n := n) (w := w) (d := d + 3) (lo := 1) (hi := 64) hg (by decide) (by decide) m3.1 g12 (MC_f m3) ((tk_d htx n2.2.2).mpr k2)
      obtain ⟨v0, A0, ⟨e0, X, eX, hX⟩, kk⟩ := this
      refine ⟨v0, A0, ⟨e0, ?_⟩, kk⟩
      rcases hX with ⟨-, -, -, y⟩ | ⟨y, -⟩
      · rw [y, eX, eZ]
      · rw [← etd] at y
        exact absurd ⟨hl, by rw [← ez]; exact z1, by rw [← ez]; exact z2⟩ y
    · rw [e]
      refine b_Mo_type_48 (fun y => absurd g7 y) (fun _ => ?_)
      rw [zv, lN_i]
      exact b_Mo_type_64 hg (wm_sg hg htx (by decide) (by decide) (by decide) m4.1 (show gp b t (te b t p2) = p3 from e3'.symm) k3) (fun A e => b_Mo_type_70 ⟨rfl, e⟩)
theorem wm_typeF (hg : ip_gk (lg_tbl, vwCl, Gr)) (ho : ip_old (lg_tbl, vwCl, Gr)) (htx : ∀ k, k < t → tx (b k)) (h : MC b t q j dp m N T) (hgq : gp b t q = p) {f pl : Nat} (hf : ¬ f = 0) (hf2 : f ≤ 2) (hT : TYF b t p f pl) : ∃ Y, zMv l Gr (zc n w) 168 M_Mo_type (d + 6) [.ref 105] T (fun A => A = Y) ∧ Y.1 73 7 = nI f ∧ Y.1 73 8 = nI pl ∧ ∀ a k, PK b t T Y a k := by
  have h1 := MC_p h hgq
  have hp := MC_p2 h1
  rcases hT with ⟨hk, e1, e2⟩ | ⟨⟨r, hS⟩, k1, hT⟩
  · subst e1 e2
    refine ⟨zi (mF (zi (zi T 73 6 (nI pl)) 73 32 0) 1 (nI pl)) 73 31 0, e_Mo_type (b_Mo_type_0 hg (wm_sortWord hg ho htx h.1 hgq (MC_f h)) (fun A hA => ?_)), by rw [zi_k (by decide)]; exact mF_f.1, by rw [zi_k (by decide)]; exact mF_f.2, fun a k => PK_tr (PK_tr (PK_tr (PK_zi (by omega)) (PK_zi (by omega))) PK_mF) (PK_zi (by omega))⟩
    rcases hA with ⟨y, -⟩ | ⟨-, e⟩
    · exact absurd y hk
    · rw [e]
      refine b_Mo_type_4 (fun y => ?_) (fun _ => b_Mo_type_16 ⟨rfl, rfl⟩)
      rw [mF_f.1] at y
      exact absurd y (by decide)
  · obtain ⟨hk, hr, er⟩ := TYS_k hS
    have e3 := wd_len3 hp htx hk
    have hle := te_le (b := b) hp
    obtain ⟨T1, eT⟩ : ∃ T1, T1 = zi (zi (zi (zi T 73 6 (nI p)) 73 32 (nI r)) 73 6 (nI (p + 3))) 73 31 0 := ⟨_, rfl⟩
    have m1 : MC b t (p + 3) j dp m N T1 := by rw [eT]; exact MC_x (MC_at (MC_x h1 (by omega)) (by omega)) (by omega)
    have pk1 : ∀ a k, PK b t T T1 a k := fun a k => by rw [eT]; exact PK_tr (PK_tr (PK_tr (PK_zi (by omega)) (PK_zi (by omega))) (PK_zi (by omega))) (PK_zi (by omega))
    have n1 := np_ok (b := b) hp
    have m2 : MC b t (np b t p) j dp m N (zi T1 73 6 (nI (np b t p))) := MC_at m1 n1.2.2
    obtain ⟨p1, e1⟩ : ∃ p1, p1 = np b t p := ⟨_, rfl⟩
    rw [← e1] at k1 hT n1 m2
    obtain ⟨te1, lt1⟩ := te_s htx n1.2.2 (c := 91) (by decide) (by decide) (by decide) k1
    have n2 := np_ok (b := b) n1.2.2
    obtain ⟨p2, e2⟩ : ∃ p2, p2 = np b t p1 := ⟨_, rfl⟩
    rw [← e2] at hT n2
    have g12 : gp b t (p1 + 1) = p2 := by rw [e2, np, te1]
    have m3 : MC b t (p1 + 1) j dp m N (zi (zi T1 73 6 (nI p1)) 73 6 (nI (p1 + 1))) := MC_at m2 (by omega)
    have pk3 : ∀ a k, PK b t T (zi (zi T1 73 6 (nI p1)) 73 6 (nI (p1 + 1))) a k := fun a k => PK_tr (pk1 a k) (PK_tr (PK_zi (by omega)) (PK_zi (by omega)))
    have k30 : ∀ (R : zS → Prop), zW l Gr (zc n w) 168 M_Mo_type (d + 6) 30 [some (.ref 105)] [] (zi T1 73 6 (nI p1)) (fun v S' => v = none ∧ R S') → zMv l Gr (zc n w) 168 M_Mo_type (d + 6) [.ref 105] T R := fun R k => wm_typeA hg ho htx h hgq hS eT (b_Mo_type_21 hg (wm_isSign hg (by rw [← e1]; exact m2.1)) (fun v A hv => by
      rw [← e1] at hv
      rw [hv.1, hv.2, if_pos ((tk_sg htx n1.2.2 (by decide) (by decide) (by decide)).mpr k1)]
      refine b_Mo_type_27 (fun z => absurd z (by decide)) (fun _ => ?_)
      exact k))
    rcases hT with ⟨k2, ef, ep⟩ | ⟨k2, hb, ef, ep⟩ | ⟨⟨z, hN⟩, k3, ef, ep⟩
    · subst ef ep
      obtain ⟨Z, eZ⟩ : ∃ Z, Z = mF (zi (zi (zi T1 73 6 (nI p1)) 73 6 (nI (p1 + 1))) 73 6 (nI pl)) 1 (nI pl) := ⟨_, rfl⟩
      have z7 : Z.1 73 7 = 1 := by rw [eZ]; exact mF_f.1
      refine ⟨zi Z 73 31 (Z.2 73 12).toInt32, k30 _ (b_Mo_type_30 hg (by rw [MC_6 m2, nI_1]; exact wm_numberF (d := d + 3) hg m3.1 g12 (MC_f m3) (fun y => k2 ((tk_d htx n2.2.2).mp y))) (fun A e => ?_)), by rw [zi_k (by decide)]; exact z7, by rw [zi_k (by decide), eZ]; exact mF_f.2, fun a k => PK_tr (pk3 a k) (by rw [eZ]; exact PK_tr (PK_tr (PK_zi (by omega)) PK_mF) (PK_zi (by omega)))⟩
      rw [e, ← eZ]
      exact b_Mo_type_48 (fun _ => b_Mo_type_70 ⟨rfl, rfl⟩) (fun y => absurd (z7.symm.trans y) (by decide))
    · subst ef ep
      have etd := isd_tk htx n2.2.2 k2
      obtain ⟨Z, eZ⟩ : ∃ Z, Z = mF (zi (zj (zi (zi T1 73 6 (nI p1)) 73 6 (nI (p1 + 1))) 73 12 (lN (nv b pl (min (re pd b t pl - pl) 10)))) 73 6 (nI (re pd b t pl))) 2 (nI pl) := ⟨_, rfl⟩
      have z7 : Z.1 73 7 = 2 := by rw [eZ]; exact mF_f.1
      refine ⟨zi Z 73 31 (Z.2 73 12).toInt32, k30 _ (b_Mo_type_30 (R := fun A => A = Z) hg ?_ (fun A e => ?_)), by rw [zi_k (by decide)]; exact z7, by rw [zi_k (by decide), eZ]; exact mF_f.2, fun a k => PK_tr (pk3 a k) (by rw [eZ]; exact PK_tr (PK_tr (PK_tr (PK_zj (by omega)) (PK_zi (by omega))) PK_mF) (PK_zi (by omega)))⟩
      · rw [MC_6 m2, nI_1]
        have := wm_number (l := l) (Gr := Gr) (n := n) (w := w) (d := d + 3) (lo := 1) (hi := 64) hg (by decide) (by decide) m3.1 g12 (MC_f m3) ((tk_d htx n2.2.2).mpr k2)
        obtain ⟨v0, A0, ⟨e0, X, eX, hX⟩, kk⟩ := this
        refine ⟨v0, A0, ⟨e0, ?_⟩, kk⟩
        rcases hX with ⟨y1, y2, y3, y⟩ | ⟨-, y⟩
        · rw [← etd] at y1 y2 y3
          exact absurd ⟨_, k2, y1, y2, y3, rfl⟩ hb
        · rw [y, eX, eZ]
      · rw [e]
        exact b_Mo_type_48 (fun _ => b_Mo_type_70 ⟨rfl, rfl⟩) (fun y => absurd (z7.symm.trans y) (by decide))
    · subst ef
      obtain ⟨k2, hl, z1, z2, ez⟩ := hN
      have etd := isd_tk htx n2.2.2 k2
      have n3 := np_ok (b := b) n2.2.2
      obtain ⟨Z, eZ⟩ : ∃ Z, Z = zi (zj (zi (zi T1 73 6 (nI p1)) 73 6 (nI (p1 + 1))) 73 12 (lN (nv b p2 (min (re pd b t p2 - p2) 10)))) 73 6 (nI (re pd b t p2)) := ⟨_, rfl⟩
      have mZ : MC b t (te b t p2) j dp m N Z := by rw [eZ, ← etd]; exact MC_at (MC_zj m3) (te_le n2.2.2)
      have m4 : MC b t (te b t p2) j dp m N (zi Z 73 31 (Z.2 73 12).toInt32) := MC_x mZ (by omega)
      rw [← ep] at k3
      refine ⟨mF (zi (zi Z 73 31 (Z.2 73 12).toInt32) 73 6 (nI pl)) 1 (nI pl), k30 _ (b_Mo_type_30 (R := fun A => A = Z) hg ?_ (fun A e => ?_)), mF_f.1, mF_f.2, fun a k => PK_tr (pk3 a k) (by rw [eZ]; exact PK_tr (PK_tr (PK_tr (PK_tr (PK_zj (by omega)) (PK_zi (by omega))) (PK_zi (by omega))) (PK_zi (by omega))) PK_mF)⟩
      · rw [MC_6 m2, nI_1]
        have := wm_number (l := l) (Gr := Gr) (n := n) (w := w) (d := d + 3) (lo := 1) (hi := 64) hg (by decide) (by decide) m3.1 g12 (MC_f m3) ((tk_d htx n2.2.2).mpr k2)
        obtain ⟨v0, A0, ⟨e0, X, eX, hX⟩, kk⟩ := this
        refine ⟨v0, A0, ⟨e0, ?_⟩, kk⟩
        rcases hX with ⟨-, -, -, y⟩ | ⟨y, -⟩
        · rw [y, eX, eZ]
        · rw [← etd] at y
          exact absurd ⟨hl, by rw [← ez]; exact z1, by rw [← ez]; exact z2⟩ y
      · rw [e]
        refine b_Mo_type_48 (fun y => absurd (MC_f mZ) y) (fun _ => b_Mo_type_64 hg (wm_sgF hg htx (by decide) (by decide) (by decide) m4.1 (show gp b t (te b t p2) = pl from ep.symm) (MC_f m4) k3) (fun A e => b_Mo_type_70 ⟨rfl, e⟩))
end TY
