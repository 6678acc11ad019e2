/-! the reference's NAMES -/
abbrev wW (b : Nat → Int32) (t a : Nat) : List Int32 := wd b a (re pn b t a)
theorem wd_eq {b : Nat → Int32} {a e p e' : Nat} : wd b a e = wd b p e' ↔ (e - a = e' - p ∧ ∀ k, k < e' - p → b (a + k) = b (p + k)) := by
  rw [wd_iff]
  rw [wd_len]
  refine and_congr_right (fun _ => forall_congr' fun k => ?_)
  refine imp_congr_right (fun hk => ?_)
  have : (wd b p e').getD k 0 = b (p + k) := by
    unfold wd
    rw [List.getD, List.getElem?_map, List.getElem?_range hk]
    rfl
  rw [this]
def nmO (b : Nat → Int32) (t : Nat) (T : zS) (N : Nat) : Prop := T.1 73 9 = nI N ∧ (∀ v, v < N → ∃ a, a < t ∧ T.1 76 v = nI a ∧ T.1 77 v = nI (re pn b t a - a)) ∧ (∀ v v' a a', v < N → v' < N → a < t → a' < t → T.1 76 v = nI a → T.1 76 v' = nI a' → wW b t a = wW b t a' → v = v')
/-- the number v stands for the NAME at p -/
def nid (b : Nat → Int32) (t : Nat) (T : zS) (v p : Nat) : Prop := ∃ N a, T.1 73 9 = nI N ∧ v < N ∧ N ≤ 2000 ∧ a < t ∧ T.1 76 v = nI a ∧ wW b t a = wW b t p ∧ p < t
/-- only the NAMES and the place have changed, and what was a NAME's number still is -/
def nmP (b : Nat → Int32) (t : Nat) (T T' : zS) (N e : Nat) : Prop := (∀ c r, ¬ (c = 73 ∧ (r = 6 ∨ r = 9)) → c ≠ 76 → c ≠ 77 → T'.1 c r = T.1 c r) ∧ T'.2 = T.2 ∧ T'.1 73 6 = nI e ∧ (∀ v, v < N → T'.1 76 v = T.1 76 v) ∧ ∃ N', N ≤ N' ∧ N' ≤ N + 1 ∧ nmO b t T' N'
section NM
variable {l : Launch} {Gr : zG} {n w : Nat} {d : Nat} {S : zS} {b : Nat → Int32} {t q : Nat}
theorem nx_cmp {p a s x1 : Nat} {i : Nat} (h : mA b t p S) (hi : i < 2000) (ha : S.1 76 i = nI a) (has : a + s ≤ t) (hps : p + s ≤ t) {Q : Option Value → zS → Prop}
    (hy : (∀ k, k < s → b (a + k) = b (p + k)) → zW l Gr (zc n w) 168 M_Mo_name (d + 1) 155 [some (.ref 105), some (.int (nI x1)), some (.int (nI s)), some (.int (nI i)), some (.int 1), none] [] S Q)
    (hn : ¬ (∀ k, k < s → b (a + k) = b (p + k)) → zW l Gr (zc n w) 168 M_Mo_name (d + 1) 155 [some (.ref 105), some (.int (nI x1)), some (.int (nI s)), some (.int (nI i)), some (.int 0), none] [] S Q) :
    ∀ (m r : Nat), r + m = s → (∀ k, k < r → b (a + k) = b (p + k)) → zW l Gr (zc n w) 168 M_Mo_name (d + 1) 102 [some (.ref 105), some (.int (nI x1)), some (.int (nI s)), some (.int (nI i)), some (.int 1), some (.int (nI r))] [] S Q
  | 0, r, hr, hk => by
    have ht := h.2.2.2.2
    refine b_Mo_name_102 (fun z => absurd z (by decide)) (fun _ => b_Mo_name_107 (fun _ => hy (by rw [show s = r by omega]; exact hk)) (fun z => absurd (nI_le (by omega) (by omega)) z))
  | m + 1, r, hr, hk => by
    have ht := h.2.2.2.2
    refine b_Mo_name_102 (fun z => absurd z (by decide)) (fun _ => b_Mo_name_107 (fun z => absurd z (nI_ge (by omega) (by omega))) (fun _ => b_Mo_name_113 (vp_in_nI hi (by omega)) (by rw [nI_clamp (by omega), ha, nI_add]; exact vp_in_nI (by omega) (by omega)) (by rw [h.2.2.1, nI_add]; exact vp_in_nI (by omega) (by omega)) (fun z => b_Mo_name_146 (b_Mo_name_147 (b_Mo_name_102 (fun _ => hn (fun y => z ?_)) (fun z => absurd rfl z)))) (fun z => b_Mo_name_142 (b_Mo_name_147 ?_))))
    · rw [nI_clamp (by omega), ha, nI_add, nI_clamp (by omega), h.2.1 _ (by omega), h.2.2.1, nI_add, nI_clamp (by omega), h.2.1 _ (by omega)]
      exact y r (by omega)
    · rw [nI_clamp (by omega), ha, nI_add, nI_clamp (by omega), h.2.1 _ (by omega), h.2.2.1, nI_add, nI_clamp (by omega), h.2.1 _ (by omega)] at z
      rw [show nI r + Int32.ofInt 1 = nI (r + 1) from nI_1 r]
      refine nx_cmp h hi ha has hps hy hn m (r + 1) (by omega) (fun k hk' => ?_)
      by_cases e : k = r
      · subst e; exact z
      · exact hk k (by omega)
theorem nx_loop {p N : Nat} (h : mA b t p S) (hp : p < t) (hN : N < 2000) (hO : nmO b t S N) {Q : Option Value → zS → Prop}
    (hy : ∀ v a, v < N → a < t → S.1 76 v = nI a → wW b t a = wW b t p → Q (some (.int (nI v))) (zi S 73 6 (nI (re pn b t p))))
    (hn : (∀ v a, v < N → a < t → S.1 76 v = nI a → ¬ wW b t a = wW b t p) → Q (some (.int (nI N))) (zi (zi (zi (zi S 76 N (nI p)) 77 N (nI (re pn b t p - p))) 73 9 (nI (N + 1))) 73 6 (nI (re pn b t p)))) :
    ∀ (m i : Nat), i + m = N → (∀ v a, v < i → a < t → S.1 76 v = nI a → ¬ wW b t a = wW b t p) → zW l Gr (zc n w) 168 M_Mo_name (d + 1) 69 [some (.ref 105), some (.int (nI (re pn b t p))), some (.int (nI (re pn b t p - p))), some (.int (nI i)), some (.int 0), none] [] S Q
  | 0, i, hm, hk => by
    have e : i = N := by omega
    subst e
    refine b_Mo_name_69 (fun _ => b_Mo_name_171 (fun z => absurd hO.1.symm z) (fun _ => b_Mo_name_179 (by rw [hO.1]; exact vp_in_nI (by omega) (by omega)) (b_Mo_name_212 ?_))) (fun z => by rw [hO.1] at z; exact absurd (Int32.le_refl _) z)
    rw [hO.1, nI_clamp (by omega), h.2.2.1, nI_1]
    exact hn hk
  | m + 1, i, hm, hk => by
    have ht := h.2.2.2.2
    have hr1 : p ≤ re pn b t p := re_ge (by omega)
    have hr2 : re pn b t p ≤ t := re_le (by omega)
    obtain ⟨a, ha, ea, es⟩ := hO.2.1 i (by omega)
    have hra1 : a ≤ re pn b t a := re_ge (by omega)
    have hra2 : re pn b t a ≤ t := re_le (by omega)
    have stop : wW b t a = wW b t p → zW l Gr (zc n w) 168 M_Mo_name (d + 1) 155 [some (.ref 105), some (.int (nI (re pn b t p))), some (.int (nI (re pn b t p - p))), some (.int (nI i)), some (.int 1), none] [] S Q := fun y => by
      refine b_Mo_name_155 (fun z => absurd z (by decide)) (fun _ => b_Mo_name_161 (b_Mo_name_166 ?_))
      rw [show nI i + 0 = nI i from nI_add i 0]
      refine b_Mo_name_69 (fun z => by rw [hO.1] at z; exact absurd z (nI_ge (by omega) (by omega))) (fun _ => b_Mo_name_77 (fun _ => b_Mo_name_171 (fun _ => b_Mo_name_212 (hy i a (by omega) ha ea y)) (fun z => ?_)) (fun z => absurd z (by decide)))
      rw [hO.1] at z
      exact absurd ((nI_eq (by omega) (by omega)).mp z) (by omega)
    have go : ¬ wW b t a = wW b t p → zW l Gr (zc n w) 168 M_Mo_name (d + 1) 155 [some (.ref 105), some (.int (nI (re pn b t p))), some (.int (nI (re pn b t p - p))), some (.int (nI i)), some (.int 0), none] [] S Q := fun y => by
      refine b_Mo_name_155 (fun _ => b_Mo_name_165 (b_Mo_name_166 ?_)) (fun z => absurd rfl z)
      rw [nI_1]
      refine nx_loop h hp hN hO hy hn m (i + 1) (by omega) (fun v a' hv ha' ea' => ?_)
      by_cases e : v = i
      · subst e
        have : a' = a := (nI_eq (by omega) (by omega)).mp (ea'.symm.trans ea)
        rw [this]
        exact y
      · exact hk v a' (by omega) ha' ea'
    refine b_Mo_name_69 (fun z => by rw [hO.1] at z; exact absurd z (nI_ge (by omega) (by omega))) (fun _ => b_Mo_name_77 (fun z => absurd rfl z) (fun _ => b_Mo_name_82 (vp_in_nI (by omega) (by omega)) (fun z => b_Mo_name_96 (b_Mo_name_97 (b_Mo_name_102 (fun _ => go (fun y => z ?_)) (fun z => absurd rfl z)))) (fun z => b_Mo_name_92 (b_Mo_name_97 ?_))))
    · rw [nI_clamp (by omega), es]
      rw [wd_eq] at y
      rw [y.1]
    · rw [nI_clamp (by omega), es] at z
      have z1 : re pn b t a - a = re pn b t p - p := (nI_eq (by omega) (by omega)).mp z
      refine nx_cmp (a := a) h (by omega) ea (by omega) (by omega) (fun y => stop ?_) (fun y => go (fun z => y ?_)) (re pn b t p - p) 0 (by omega) (fun k hk => absurd hk (Nat.not_lt_zero k))
      · rw [wd_eq]
        exact ⟨z1, y⟩
      · rw [wd_eq] at z
        exact z.2
/-- a NAME is read: its number, and the NAMES again -/
theorem wm_name (hg : ip_gk (lg_tbl, vwCl, Gr)) (ho : ip_old (lg_tbl, vwCl, Gr)) {p N : Nat} (htx : ∀ k, k < t → tx (b k)) (h : mA b t q S) (hgq : gp b t q = p) (hk : tk b t p = 1) (hsz : te b t p - p ≤ 16) (hN : N < 2000) (hO : nmO b t S N) : zMi l Gr (zc n w) 168 M_Mo_name (d + 6) [.ref 105] S (fun v S' => ∃ k, v = nI k ∧ nid b t S' k p ∧ nmP b t S S' N (te b t p)) := by
  have ht := h.2.2.2.2
  have hpt : p ≤ t := by rw [← hgq]; exact gp_le h.2.2.2.1
  obtain ⟨ete, hlt, hisl⟩ := te_n htx hpt (Or.inl hk)
  have hp1 : p < t := Nat.lt_of_lt_of_le hlt (we_le hpt).2
  have ewe : we b t p = re pn b t p := by unfold we; rw [lk_in hp1, if_pos hisl]
  have hr2 : re pn b t p ≤ t := re_le hpt
  rw [ete, ewe] at hsz ⊢
  rw [ewe] at hlt
  refine e_Mo_name (b_Mo_name_0 hg (wm_gap hg h) (fun S1 e1 => ?_))
  rw [hgq] at e1
  have m1 : mA b t p S1 := by rw [e1]; exact mA_at h hpt
  have O1 : nmO b t S1 N := by
    rw [e1]
    refine ⟨by rw [zi_k (by decide)]; exact hO.1, fun v hv => ?_, fun v v' a a' h1 h2 h3 h4 h5 h6 => ?_⟩
    · rw [zi_c (by decide), zi_c (by decide)]; exact hO.2.1 v hv
    · rw [zi_c (by decide)] at h5 h6
      exact hO.2.2 v v' a a' h1 h2 h3 h4 h5 h6
  refine b_Mo_name_4 hg (wm_wordEnd hg m1) (fun v S' hv => ?_)
  obtain ⟨e2, hv⟩ := hv
  rw [e2, hv, ewe]
  refine b_Mo_name_8 (fun z => ?_) (fun _ => b_Mo_name_17 hg (wm_isKept hg ho m1) (fun v S' hv => ?_))
  · rw [m1.2.2.1] at z
    exact absurd ((nI_eq (by omega) (by omega)).mp z) (by omega)
  · obtain ⟨e3, hv⟩ := hv
    rw [e3]
    rw [if_pos ((tk_n htx hpt).mpr hk).2] at hv
    subst hv
    refine b_Mo_name_21 (fun _ => b_Mo_name_35 (fun _ => b_Mo_name_57 ?_) (fun z => ?_)) (fun z => absurd rfl z)
    · rw [m1.2.2.1, pk_sub (by omega)]
      refine nx_loop m1 hp1 hN O1 (fun v a hv ha ea ew => ⟨_, rfl, v, rfl, ?_, ?_⟩) (fun hall => ⟨_, rfl, N, rfl, ?_, ?_⟩) N 0 (by omega) (fun v a hv => absurd hv (Nat.not_lt_zero v))
      · exact ⟨N, a, by rw [zi_k (by decide)]; exact O1.1, hv, by omega, ha, by rw [zi_c (by decide)]; exact ea, ew, hp1⟩
      · refine ⟨fun c r h1 h2 h3 => ?_, by rw [e1]; rfl, zi_v, fun v _ => ?_, N, Nat.le_refl _, by omega, ?_⟩
        · rw [e1, zi_get, zi_get, if_neg (fun z => h1 ⟨z.1, Or.inl z.2⟩), if_neg (fun z => h1 ⟨z.1, Or.inl z.2⟩)]
        · rw [zi_c (by decide), e1, zi_c (by decide)]
        · refine ⟨by rw [zi_k (by decide)]; exact O1.1, fun v hv => ?_, fun v v' a a' h1 h2 h3 h4 h5 h6 => ?_⟩
          · rw [zi_c (by decide), zi_c (by decide)]; exact O1.2.1 v hv
          · rw [zi_c (by decide)] at h5 h6
            exact O1.2.2 v v' a a' h1 h2 h3 h4 h5 h6
      · refine ⟨N + 1, p, ?_, by omega, by omega, hp1, ?_, rfl, hp1⟩
        · rw [zi_k (by decide)]; exact zi_v
        · rw [zi_c (by decide), zi_c (by decide), zi_c (by decide)]; exact zi_v
      · have r76 : ∀ v, v < N → (zi (zi (zi (zi S1 76 N (nI p)) 77 N (nI (re pn b t p - p))) 73 9 (nI (N + 1))) 73 6 (nI (re pn b t p))).1 76 v = S1.1 76 v := fun v hv => by
          rw [zi_c (by decide), zi_c (by decide), zi_c (by decide), zi_k (by omega)]
        have r77 : ∀ v, v < N → (zi (zi (zi (zi S1 76 N (nI p)) 77 N (nI (re pn b t p - p))) 73 9 (nI (N + 1))) 73 6 (nI (re pn b t p))).1 77 v = S1.1 77 v := fun v hv => by
          rw [zi_c (by decide), zi_c (by decide), zi_k (by omega), zi_c (by decide)]
        have n76 : (zi (zi (zi (zi S1 76 N (nI p)) 77 N (nI (re pn b t p - p))) 73 9 (nI (N + 1))) 73 6 (nI (re pn b t p))).1 76 N = nI p := by
          rw [zi_c (by decide), zi_c (by decide), zi_c (by decide)]; exact zi_v
        have n77 : (zi (zi (zi (zi S1 76 N (nI p)) 77 N (nI (re pn b t p - p))) 73 9 (nI (N + 1))) 73 6 (nI (re pn b t p))).1 77 N = nI (re pn b t p - p) := by
          rw [zi_c (by decide), zi_c (by decide)]; exact zi_v
        refine ⟨fun c r h1 h2 h3 => ?_, by rw [e1]; rfl, zi_v, fun v hv => ?_, N + 1, by omega, Nat.le_refl _, ?_⟩
        · rw [zi_get, if_neg (fun z => h1 ⟨z.1, Or.inl z.2⟩), zi_get, if_neg (fun z => h1 ⟨z.1, Or.inr z.2⟩), zi_c h3, zi_c h2, e1, zi_get, if_neg (fun z => h1 ⟨z.1, Or.inl z.2⟩)]
        · rw [r76 v hv, e1, zi_c (by decide)]
        · refine ⟨by rw [zi_k (by decide)]; exact zi_v, fun v hv => ?_, fun v v' a a' h1 h2 h3 h4 h5 h6 h7 => ?_⟩
          · by_cases e : v = N
            · subst e; exact ⟨p, hp1, n76, n77⟩
            · rw [r76 v (by omega), r77 v (by omega)]; exact O1.2.1 v (by omega)
          · by_cases e : v = N
            · subst e
              rw [n76] at h5
              have ea : p = a := (nI_eq (by omega) (by omega)).mp h5
              by_cases e' : v' = v
              · exact e'.symm
              · rw [r76 v' (by omega)] at h6
                exact absurd (by rw [ea]; exact h7.symm) (hall v' a' (by omega) h4 h6)
            · rw [r76 v (by omega)] at h5
              by_cases e' : v' = N
              · subst e'
                rw [n76] at h6
                have ea : p = a' := (nI_eq (by omega) (by omega)).mp h6
                exact absurd (by rw [ea]; exact h7) (hall v a (by omega) h3 h5)
              · rw [r76 v' (by omega)] at h6
                exact O1.2.2 v v' a a' (by omega) (by omega) h3 h4 h5 h6 h7
    · rw [m1.2.2.1, pk_sub (by omega)] at z
      exact absurd (nI_le (a := re pn b t p - p) (b := 16) hsz (by omega)) z
/-- no NAME stands there: FAULT 1; too long a one: FAULT 2 -/
theorem wm_nameF (hg : ip_gk (lg_tbl, vwCl, Gr)) (ho : ip_old (lg_tbl, vwCl, Gr)) {p : Nat} (htx : ∀ k, k < t → tx (b k)) (h : mA b t q S) (hgq : gp b t q = p) (h7 : S.1 73 7 = 0) (hbad : ¬ tk b t p = 1 ∨ (tk b t p = 1 ∧ ¬ te b t p - p ≤ 16)) : zMi l Gr (zc n w) 168 M_Mo_name (d + 6) [.ref 105] S (fun v S' => v = 0 ∧ S' = mF (zi S 73 6 (nI p)) (if tk b t p = 1 then 2 else 1) (nI p)) := by
  have ht := h.2.2.2.2
  have hpt : p ≤ t := by rw [← hgq]; exact gp_le h.2.2.2.1
  have hw := we_le (b := b) hpt
  refine e_Mo_name (b_Mo_name_0 hg (wm_gap hg h) (fun S1 e1 => ?_))
  rw [hgq] at e1
  have m1 : mA b t p S1 := by rw [e1]; exact mA_at h hpt
  have f1 : S1.1 73 7 = 0 := by rw [e1, zi_k (by decide)]; exact h7
  refine b_Mo_name_4 hg (wm_wordEnd hg m1) (fun v S' hv => ?_)
  obtain ⟨e2, hv⟩ := hv
  rw [e2, hv]
  have no1 : ¬ tk b t p = 1 → zW l Gr (zc n w) 168 M_Mo_name (d + 6) 24 [some (.ref 105), none, none, none, none, none] [] S1 (fun v S' => ∃ x, v = some (.int x) ∧ x = 0 ∧ S' = mF (zi S 73 6 (nI p)) (if tk b t p = 1 then 2 else 1) (nI p)) := fun z => by
    refine b_Mo_name_24 hg (wm_fail f1) (fun S2 e2 => b_Mo_name_33 ⟨_, rfl, rfl, ?_⟩)
    rw [e2, m1.2.2.1, if_neg z, e1]
  refine b_Mo_name_8 (fun z => no1 (fun y => ?_)) (fun z => b_Mo_name_17 hg (wm_isKept hg ho m1) (fun v S' hv => ?_))
  · rw [m1.2.2.1] at z
    exact ((tk_n htx hpt).mpr y).1 ((nI_eq (by omega) (by omega)).mp z)
  · obtain ⟨e3, hv⟩ := hv
    rw [e3]
    by_cases y : wk (wd b p (we b t p)) = 1
    · rw [if_pos y] at hv
      subst hv
      have k1 : tk b t p = 1 := (tk_n htx hpt).mp ⟨fun x => z (by rw [x, m1.2.2.1]), y⟩
      have k2 : ¬ te b t p - p ≤ 16 := hbad.elim (fun x => absurd k1 x) (fun x => x.2)
      rw [(te_n htx hpt (Or.inl k1)).1] at k2
      refine b_Mo_name_21 (fun _ => b_Mo_name_35 (fun z => ?_) (fun z => b_Mo_name_46 hg (wm_fail f1) (fun S2 e2 => b_Mo_name_55 ⟨_, rfl, rfl, ?_⟩))) (fun z => absurd rfl z)
      · rw [m1.2.2.1, pk_sub hw.1] at z
        exact absurd ((nI_leI (a := we b t p - p) (b := 16) (by omega) (by omega)).mp z) k2
      · rw [e2, m1.2.2.1, if_pos k1, e1]
    · rw [if_neg y] at hv
      subst hv
      exact b_Mo_name_21 (fun z => absurd z (by decide)) (fun _ => no1 (fun x => y ((tk_n htx hpt).mpr x).2))
theorem wm_sign (hg : ip_gk (lg_tbl, vwCl, Gr)) {p : Nat} {c : Int32} (h : mA b t q S) (hgq : gp b t q = p) (hs : sg b t p c) : zMv l Gr (zc n w) 168 M_Mo_sign (d + 3) [.ref 105, .int c] S (fun S' => S' = zi S 73 6 (nI (p + 1))) := by
  have hpt : p ≤ t := by rw [← hgq]; exact gp_le h.2.2.2.1
  refine e_Mo_sign (b_Mo_sign_0 hg (wm_gap hg h) (fun S1 e1 => ?_))
  rw [hgq] at e1
  have m1 : mA b t p S1 := by rw [e1]; exact mA_at h hpt
  refine b_Mo_sign_4 hg (wm_isSign hg m1) (fun v S' hv => ?_)
  obtain ⟨e2, hv⟩ := hv
  rw [e2]
  rw [if_pos hs] at hv
  subst hv
  refine b_Mo_sign_9 (fun _ => b_Mo_sign_22 ⟨rfl, ?_⟩) (fun z => absurd z (by decide))
  rw [m1.2.2.1, nI_1, e1, zi_zi]
theorem wm_signF (hg : ip_gk (lg_tbl, vwCl, Gr)) {p : Nat} {c : Int32} (h : mA b t q S) (hgq : gp b t q = p) (h7 : S.1 73 7 = 0) (hs : ¬ sg b t p c) : zMv l Gr (zc n w) 168 M_Mo_sign (d + 3) [.ref 105, .int c] S (fun S' => S' = mF (zi S 73 6 (nI p)) 1 (nI p)) := by
  have hpt : p ≤ t := by rw [← hgq]; exact gp_le h.2.2.2.1
  refine e_Mo_sign (b_Mo_sign_0 hg (wm_gap hg h) (fun S1 e1 => ?_))
  rw [hgq] at e1
  have m1 : mA b t p S1 := by rw [e1]; exact mA_at h hpt
  refine b_Mo_sign_4 hg (wm_isSign hg m1) (fun v S' hv => ?_)
  obtain ⟨e2, hv⟩ := hv
  rw [e2]
  rw [if_neg hs] at hv
  subst hv
  refine b_Mo_sign_9 (fun z => absurd rfl z) (fun _ => b_Mo_sign_12 hg (wm_fail (by rw [e1, zi_k (by decide)]; exact h7)) (fun S2 e2 => b_Mo_sign_21 ⟨rfl, ?_⟩))
  rw [e2, m1.2.2.1, e1]
end NM
