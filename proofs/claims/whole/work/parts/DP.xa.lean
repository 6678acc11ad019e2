/-! BUILD on both sides: every EXPR -/
/-- the visible defs, calls going no deeper than m; p: where the text of what sees them begins -/
def DEn (w D N M : Nat) (S T : zS) : Nat → (Nat → Nat → Prop) → Nat → Prop
  | 0, Av, _ => ∀ e a, Av e a → ¬ S.1 11 e = 4
  | m + 1, Av, p => ∀ e a, Av e a → S.1 11 e = 4 → ∃ A0 r k ib ib' jb' p0 p1, (e + k < D ∧ r ≤ 1 ∧ S.1 12 e = nI r ∧ S.1 13 e = 0 ∧ S.1 14 e = nI ib ∧ S.1 15 e = nI k ∧ ∀ c, c < k → S.1 11 (e + 1 + c) = 3 ∧ S.1 13 (e + 1 + c) = 0 ∧ ∃ ra, ra ≤ 1 ∧ S.1 12 (e + 1 + c) = nI ra) ∧ aX w D (dfA A0 S e k) r S T ib ib' (a + k + 2) jb' ∧ (S.1 4 ib' = 5 ∧ T.1 78 jb' = 29 ∧ T.1 80 a = nI k ∧ ib' < N ∧ jb' < M ∧ a < 12000 ∧ p0 ≤ p1 ∧ p1 ≤ p) ∧ (∀ x, ib ≤ x → x ≤ ib' → 2 * hs (ef2 S) ib x ≤ (p1 : Int) - p0) ∧ DEn w D N M S T m A0 p0
def LXA (l : Launch) (Gr : zG) (n w d D N M : Nat) (S T : zS) (mf nn : Nat) : Prop := ∀ (Av : Nat → Nat → Prop) (cf rf cd hb hrb r i i' j j' hc hr st hE U p : Nat) (A B0 : zS), aE w D Av S T nn r i i' j j' → AvO S Av cd → DEn w D N M S T mf Av p → cd + mf ≤ 285 → hc ≤ hE + 7680 → hr ≤ hE → 2 * U + p ≤ 4000 → (∀ x, i ≤ x → x ≤ i' → (hE : Int) + hs (ef2 S) i x ≤ U) → i' ≤ N → j' ≤ M → XS w Av S T cf rf cd hb hrb i hc hr st A B0 → TRx l Gr n w d Av S T cf rf cd hb hrb r i i' j j' hc hr st A
section XAL
variable {l : Launch} {Gr : zG} {n w : Nat} {d : Nat} {Av A0 : Nat → Nat → Prop} {S T A B0 : zS} {cf rf cd hb hrb i i' hc hr st r ex i1 i2 j j' j1 N M z e D a m p k hE U mf nn t : Nat} {os : List Nat}
theorem aE_r : ∀ n r i i' j j', aE w D Av S T n r i i' j j' → r ≤ 1
  | 0, _, _, _, _, _, h => h.elim
  | n + 1, r, i, i', j, j', h => by
    have ih := aE_r n
    rcases h with h | h | h | h | h | h | h | h | h | h | h
    · obtain ⟨v, hv, e0, -⟩ := h
      omega
    · obtain ⟨e0, -⟩ := h
      omega
    · obtain ⟨d, k, a, ⟨-, -, q, -⟩, -⟩ := h
      exact q
    · obtain ⟨d, k, z, a, pb, q, i1, j1, ⟨-, -, q, -⟩, -⟩ := h
      exact q
    · obtain ⟨d, z, a, m, i1, j1, ⟨-, -, q, -⟩, -⟩ := h
      exact q
    · obtain ⟨i1, j1, -, e0, -⟩ := h
      omega
    · obtain ⟨q, i1, j1, i2, j2, -, -, e0, -⟩ := h
      omega
    · obtain ⟨i1, j1, g, -⟩ := h
      exact ih _ _ _ _ _ g
    · obtain ⟨q, i1, j1, i2, j2, o, r1, -, -, -, -, h1, -, -, h4, -⟩ := h
      rw [h4]
      split <;> omega
    · obtain ⟨i1, j1, i2, j2, i3, j3, -, g2, -⟩ := h
      exact ih _ _ _ _ _ g2
    · obtain ⟨j1, g, -⟩ := h
      exact ih _ _ _ _ _ g
theorem DEn_df (h : DEn w D N M S T m A0 p) (hp : ∀ c, c < k → S.1 11 (e + 1 + c) = 3) : DEn w D N M S T m (dfA A0 S e k) p := by
  cases m with
  | zero =>
    intro e' a' y1 y2
    rcases y1 with ⟨y, -⟩ | ⟨c, hc, y, -⟩
    · exact h e' a' y y2
    · rw [y, hp c hc] at y2
      exact absurd y2 (by decide)
  | succ m =>
    intro e' a' y1 y2
    rcases y1 with ⟨y, -⟩ | ⟨c, hc, y, -⟩
    · exact h e' a' y y2
    · rw [y, hp c hc] at y2
      exact absurd y2 (by decide)
theorem AvO_df (h : DEn w D N M S T m A0 p) (hp : ∀ c, c < k → S.1 11 (e + 1 + c) = 3 ∧ S.1 13 (e + 1 + c) = 0) : AvO S (dfA A0 S e k) (cd + 1) := by
  intro e' a' y
  rcases y with ⟨y, y4⟩ | ⟨c, hc, y, -⟩
  · refine ⟨fun q => ?_, Or.inr (Or.inr ?_), fun _ => by omega⟩
    · rw [y4] at q
      exact absurd q (by decide)
    · cases m with
      | zero => exact absurd y4 (h e' a' y)
      | succ m =>
        obtain ⟨_, _, _, _, _, _, _, _, ⟨-, -, -, q, -⟩, -⟩ := h e' a' y y4
        exact q
  · obtain ⟨p3, p13⟩ := hp c hc
    rw [← y] at p3 p13
    refine ⟨fun q => ?_, Or.inr (Or.inr p13), fun _ => by omega⟩
    rw [p3] at q
    exact absurd q (by decide)
theorem hsub (HH : ∀ x, i ≤ x → x ≤ i' → (hE : Int) + hs (ef2 S) i x ≤ U) (h : hs (ef2 S) i i1 = (t : Int)) (a1 : i ≤ i1) (a2 : i2 ≤ i') : ∀ x, i1 ≤ x → x ≤ i2 → ((hE + t : Nat) : Int) + hs (ef2 S) i1 x ≤ U := fun x q1 q2 => by
  have := HH x (by omega) (by omega)
  rw [hs_add a1 x q1, h] at this
  omega
theorem lx_stp (hg : ip_gk (lg_tbl, vwCl, Gr)) (ho : ip_old (lg_tbl, vwCl, Gr)) (hw1 : 1 ≤ w) (hw : w ≤ 32) (cx : CTX S T N M) (h0 : XS w Av S T cf rf cd hb hrb i hc hr st A B0) (hz : z = 21 ∨ z = 25 ∨ z = 28) (s4 : S.1 4 i = nI z) (t1 : T.1 78 j = 1) (hi : i < N) (hj : j < M) (hhc : hc + 1 ≤ 9682) : TRu l Gr n w d Av S T cf rf cd hb hrb [] 119 i (i + 1) j (j + 1) hc hr st A := by
  refine TRu_step (N := N) hg hw1 hw h0 cx.2.2.1 cx.2.2.2 hj t1 (ck_1 (z := z) (e := 0) hg ho hw cx h0 hi s4 (by omega) (by rcases hz with e | e | e <;> rw [e] <;> rfl) (by omega) hhc (kg_F hg (by omega) (by omega) (w_facS (d := d + 4) hz ?_)))
  rw [zi_k (by decide)]
  exact h0.1.2.2.2.2.2.1
theorem lx_args (hg : ip_gk (lg_tbl, vwCl, Gr)) (ho : ip_old (lg_tbl, vwCl, Gr)) (hw1 : 1 ≤ w) (hw : w ≤ 32) (cx : CTX S T N M) (hD : D ≤ 800) (nu : ∀ x, x ≤ N → ur S x ≤ 30) (ih : LXA l Gr n w d D N M S T mf nn) (av : AvO S Av cd) (dn : DEn w D N M S T mf Av p) (hcd : cd + mf ≤ 285) (hhc : hc ≤ hE + 7680) (hhr : hr ≤ hE) (hU : 2 * U + p ≤ 4000) (HH : ∀ x, i ≤ x → x ≤ i' → (hE : Int) + hs (ef2 S) i x ≤ U) (h0 : XS w Av S T cf rf cd hb hrb i hc hr st A B0) (e28 : ef2 S i = 0) (h1 : TRu l Gr n w d Av S T cf rf cd hb hrb [] 119 i (i + 1) j (j + 2) hc hr st A) : ∀ (m i1 j1 : Nat), aA S T (aE w D Av S T nn) e m (i + 1) i1 (j + 2) j1 → i1 ≤ i' → i' ≤ N → j1 ≤ M → ∃ os : List Nat, os.length = m ∧ (∀ c, c < m → S.1 12 (e + 1 + c) = nI (os.getD c 0) ∧ os.getD c 0 ≤ 1) ∧ TRu l Gr n w d Av S T cf rf cd hb hrb os 119 i i1 j j1 hc hr st A
  | 0, i1, j1, h, _, _, _ => ⟨[], rfl, fun c hc => absurd hc (by omega), by rw [h.1, h.2]; exact h1⟩
  | m + 1, i1, j1, h, hi1, hi', hj1 => by
    obtain ⟨i2, j2, r, i3, j3, g1, hr1, g2, e1, e2, f1, f2, f3⟩ := h
    have bd := aE_bnd (w := w) (D := D) (A := Av) (S := S) (T := T) nn
    have a1 := aA_bnd bd _ _ _ _ _ g1
    have a2 := bd _ _ _ _ _ g2
    obtain ⟨os, hl, hos, tr⟩ := lx_args hg ho hw1 hw cx hD nu ih av dn hcd hhc hhr hU HH h0 e28 h1 m i2 j2 g1 (by omega) hi' (by omega)
    have hN := cx.2.1
    have k1 : hs (ef2 S) i i2 = (m : Int) := by
      rw [hs_c (by omega) e28, hsA bd (fun p i i' j j' q1 q2 => hs1 hN hD nn p i i' j j' q1 q2) m _ _ _ _ (by omega) g1]
      omega
    have tr2 := TRu_app (r := r) (i2 := i3) (j2 := j3) hw1 hw h0 (nu i3 (by omega)) tr (fun A1 B1 st1 hst x1 => ih Av cf rf cd hb hrb r i2 i3 j2 j3 (hc + os.length) (hr + os.length) st1 (hE + m) U p A1 B1 g2 av dn hcd (by omega) (by omega) hU (hsub HH k1 (by omega) (by omega)) (by omega) (by omega) x1)
    have hb3 := HH i3 (by omega) (by omega)
    rw [hs_add (m := i2) (by omega) i3 (by omega), k1, hs1 hN hD nn _ _ _ _ _ (by omega) g2] at hb3
    refine ⟨os ++ [r], by rw [List.length_append, hl]; rfl, fun c hc => ?_, ?_⟩
    · by_cases z : c < m
      · rw [gd_l (by omega)]
        exact hos c z
      · have ec : c = os.length := by omega
        subst ec
        rw [gd_r, hl]
        exact ⟨f1, hr1⟩
    · rw [e1, e2]
      refine TRu_nop (z := 29) hg ho hw1 hw cx h0 (Or.inl rfl) f2 f3 ?_ (by omega) (by omega) ?_ tr2
      · rw [List.length_append]
        exact Nat.le_add_left _ _
      · rw [List.length_append, hl, show [r].length = 1 from rfl]
        omega
theorem lx_one (hg : ip_gk (lg_tbl, vwCl, Gr)) (ho : ip_old (lg_tbl, vwCl, Gr)) (hw1 : 1 ≤ w) (hw : w ≤ 32) (cx : CTX S T N M) (hD : D ≤ 800) (nu : ∀ x, x ≤ N → ur S x ≤ 30) (hbd : ∀ m', mf = m' + 1 → ∀ nn, LXA l Gr n w d D N M S T m' nn) : ∀ nn, LXA l Gr n w d D N M S T mf nn := by
  have hN := cx.2.1
  have hM := cx.2.2.2
  intro nn
  induction nn with
  | zero =>
    intro Av cf rf cd hb hrb r i i' j j' hc hr st hE U p A B0 h
    exact h.elim
  | succ nn ih =>
    intro Av cf rf cd hb hrb r i i' j j' hc hr st hE U p A B0 h av dn hcd hhc hhr hU HH hi' hj' h0
    have bd := aE_bnd (w := w) (D := D) (A := Av) (S := S) (T := T) nn
    have h1s := hs1 (w := w) (D := D) (A := Av) (S := S) (T := T) hN hD nn
    have bi := aE_bnd (w := w) (D := D) (A := Av) (S := S) (T := T) (nn + 1) r i i' j j' h
    have hI := HH i (Nat.le_refl _) (by omega)
    rw [hs_le _ (Nat.le_refl _)] at hI
    -- an EXPR within it, t operands above
    have sub : ∀ (t r' i1 i2 j1 j2 st1 : Nat) (A1 B1 : zS), aE w D Av S T nn r' i1 i2 j1 j2 → hs (ef2 S) i i1 = (t : Int) → i ≤ i1 → i2 ≤ i' → j2 ≤ j' → XS w Av S T cf rf cd hb hrb i1 (hc + t) (hr + t) st1 A1 B1 → TRx l Gr n w d Av S T cf rf cd hb hrb r' i1 i2 j1 j2 (hc + t) (hr + t) st1 A1 := fun t r' i1 i2 j1 j2 st1 A1 B1 g ht a1 a2 a3 x1 => ih Av cf rf cd hb hrb r' i1 i2 j1 j2 (hc + t) (hr + t) st1 (hE + t) U p A1 B1 g av dn hcd (by omega) (by omega) hU (hsub HH ht a1 a2) (by omega) (by omega) x1
    rcases h with h | h | h | h | h | h | h | h | h | h | h
    · exact lx_num hg ho hw1 hw cx h0 h (by omega) (by obtain ⟨_, _, _, _, e2, _⟩ := h; omega) (by omega) (by omega)
    · exact lx_tru hg ho hw1 hw cx h0 h (by omega) (by obtain ⟨_, _, e2, _⟩ := h; omega) (by omega) (by omega)
    · exact lx_nam hg ho hw1 hw cx h0 h hD (fun _ => by omega) (fun e a q => (av e a q).2.2) (by omega) (fun e a q => (av e a q).1) (by omega) (by obtain ⟨_, _, _, _, _, _, e2, _⟩ := h; omega) (by omega)
    · obtain ⟨e, k, z, a, pb, q, i1, j1, h1, hz, hp, g, e1, e2, f1, f2, f3, f4, f5, f6, f7, f8, f9, f10, f11, f12, f13⟩ := h
      have a1 := bd _ _ _ _ _ g
      subst e1 e2
      have s0 := lx_stp (l := l) (n := n) (d := d) (z := 25) hg ho hw1 hw cx h0 (by omega) f1 f9 (by omega) (by omega) (by omega)
      have s1 := TRu_pass (z := 6) hg cx.2.2.1 hM (by omega) f10 (by omega) s0
      have k0 : hs (ef2 S) i (i + 1) = ((0 : Nat) : Int) := hs_1 (ef_o f1 (by decide) (by decide))
      have s2 := TRu_app (r := 0) (i2 := i1) (j2 := j1) hw1 hw h0 (nu i1 (by omega)) s1 (fun A1 B1 st1 _ x1 => sub 0 0 (i + 1) i1 (j + 2) j1 st1 A1 B1 g k0 (by omega) (by omega) (by omega) x1)
      exact lx_elt hg ho hw1 hw cx av hD h0 (TRu_le s2 (by omega)) h1 hz hp f2 f3 f4 f5 f6 f7 f8 f11 f12 f13.1 (by omega) (by omega) (by omega) (by omega) (by omega)
    · obtain ⟨e, z, a, m, i1, j1, h1, g, hd, h15, e1, e2, f1, f2, f3, f4, f5, f6, f7, f8⟩ := h
      have a1 := aA_bnd bd _ _ _ _ _ g
      subst e1 e2
      obtain ⟨q1, q2, q3, q4, q5, q6, q7', q8, q9, q10, q11, q12, q13, q14⟩ := h1
      have q7 : S.1 11 e = 4 := q7'
      cases mf with
      | zero => exact absurd q7 (dn e a q6)
      | succ m' =>
        obtain ⟨A0, r0, k, ib, ib', jb', p0, p1, ⟨d1, d2, d3, d4, d5, d6, d7⟩, ⟨nb, dx⟩, ⟨v1, v2, v3, v4, v5, v6, v7, v8⟩, dh, dn'⟩ := dn e a q6 q7
        have ek : k = m := (nI_eq (by omega) (by omega)).mp (d6.symm.trans h15)
        have er : r0 = r := (nI_eq (by omega) (by omega)).mp (d3.symm.trans q8)
        subst ek er
        have e28 : ef2 S i = 0 := ef_o f1 (by decide) (by decide)
        have s0 := lx_stp (l := l) (n := n) (d := d) (z := 28) hg ho hw1 hw cx h0 (by omega) f1 f5 (by omega) (by omega) (by omega)
        have s1 := TRu_pass (z := 8) hg cx.2.2.1 hM (by omega) f6 (by omega) s0
        obtain ⟨os, hl, hos, tr⟩ := lx_args hg ho hw1 hw cx hD nu ih av dn hcd hhc hhr hU HH h0 e28 s1 k i1 j1 g (by omega) hi' (by omega)
        subst hl
        have hb1 := HH i1 (by omega) (by omega)
        rw [hs_c (by omega) e28, hsA bd (fun p i i' j j' q1 q2 => h1s p i i' j j' q1 q2) os.length _ _ _ _ (by omega) g] at hb1
        have ba := aE_bnd (w := w) (D := D) (S := S) (T := T) nb _ _ _ _ _ dx
        refine lx_cal (Av' := dfA A0 S e os.length) (ib := ib) (ib' := ib') (jb' := jb') hg ho hw1 hw cx hD h0 tr (by omega) q1 q5 q12 (fun e' a' y => ?_) (fun c hc => ⟨(d7 c hc).1, hos c hc⟩) h15 d5 f2 f3 f4 f7 v3 v1 v2 (nu ib' (by omega)) (by omega) (by omega) (by omega) v4 v5 (by omega) (by omega) (by omega) (fun A' B' st' hst x' => ?_)
        · rcases y with ⟨-, y⟩ | y
          · exact Or.inl y
          · exact Or.inr y
        · refine hbd m' rfl nb (dfA A0 S e os.length) (hc * w) hr (cd + 1) (hc + os.length) (hr + os.length) r0 ib ib' (a + os.length + 2) jb' (hc + os.length) (hr + os.length) st' (hE + os.length) (U + (p1 - p0) / 2) p0 A' B' dx (AvO_df dn' (fun c hc => ⟨(d7 c hc).1, (d7 c hc).2.1⟩)) (DEn_df dn' (fun c hc => (d7 c hc).1)) (by omega) (by omega) (by omega) (by omega) (fun x y1 y2 => ?_) (by omega) (by omega) x'
          have := dh x y1 y2
          omega
    · obtain ⟨i1, j1, g, e0, e1, e2, f1, f2, f3, f4⟩ := h
      have a1 := bd _ _ _ _ _ g
      subst e0 e1 e2
      have s0 := lx_stp (l := l) (n := n) (d := d) (z := 21) hg ho hw1 hw cx h0 (by omega) f1 f3 (by omega) (by omega) (by omega)
      have k0 : hs (ef2 S) i (i + 1) = ((0 : Nat) : Int) := hs_1 (ef_o f1 (by decide) (by decide))
      have s2 := TRu_app (r := 1) (i2 := i1) (j2 := j1) hw1 hw h0 (nu i1 (by omega)) s0 (fun A1 B1 st1 _ x1 => sub 0 1 (i + 1) i1 (j + 1) j1 st1 A1 B1 g k0 (by omega) (by omega) (by omega) x1)
      exact lx_int hg ho hw1 hw cx h0 (TRu_le s2 (by omega)) f2 f4 (by omega) (by omega) (by omega) (by omega)
    · obtain ⟨q, i1, j1, i2, j2, g, g2, e0, e1, e2, f1, f2, f3, f4, f5, f6, f7, f8⟩ := h
      have a1 := bd _ _ _ _ _ g
      have a2 := bd _ _ _ _ _ g2
      subst e0 e1 e2
      have s0 := lx_stp (l := l) (n := n) (d := d) (z := 21) hg ho hw1 hw cx h0 (by omega) f1 f5 (by omega) (by omega) (by omega)
      have k0 : hs (ef2 S) i (i + 1) = ((0 : Nat) : Int) := hs_1 (ef_o f1 (by decide) (by decide))
      have k1 : hs (ef2 S) i i1 = 1 := by rw [hs_c (by omega) (ef_o f1 (by decide) (by decide) : ef2 S i = 0), h1s _ _ _ _ _ (by omega) g]; rfl
      have k2 : hs (ef2 S) i (i1 + 1) = ((1 : Nat) : Int) := by rw [hs_n (e2 := 0) (by omega) (ef_o f2 (by decide) (by decide)), k1]; rfl
      have hb2 := HH i2 (by omega) (by omega)
      rw [hs_add (m := i1 + 1) (by omega) i2 (by omega), k2, h1s _ _ _ _ _ (by omega) g2] at hb2
      have s2 := TRu_app (r := 0) (i2 := i1) (j2 := j1) hw1 hw h0 (nu i1 (by omega)) s0 (fun A1 B1 st1 _ x1 => sub 0 0 (i + 1) i1 (j + 1) j1 st1 A1 B1 g k0 (by omega) (by omega) (by omega) x1)
      have s3 := TRu_nop (os := [0]) (z := 32) (ex := 119) hg ho hw1 hw cx h0 (Or.inr rfl) f2 f6 (Nat.le_refl _) (by omega) (by omega) (by show hc + 1 + 1 ≤ _; omega) s2
      have s4 := TRu_app (r := 0) (i2 := i2) (j2 := j2) hw1 hw h0 (nu i2 (by omega)) s3 (fun A1 B1 st1 _ x1 => sub 1 0 (i1 + 1) i2 (j1 + 1) j2 st1 A1 B1 g2 k2 (by omega) (by omega) (by omega) x1)
      exact lx_bit hg ho hw1 hw cx h0 (TRu_le s4 (by omega)) f3 f4 f7 f8.1 (by omega) (by omega) (by omega) (by omega)
    · obtain ⟨i1, j1, g, e1, e2, f1, f2⟩ := h
      have a1 := bd _ _ _ _ _ g
      subst e1 e2
      exact lx_una hg ho hw1 hw cx h0 (sub 0 r i i1 j j1 st A B0 g (hs_le _ (Nat.le_refl _)) (Nat.le_refl _) (by omega) (by omega) h0) ⟨f1, f2⟩ (nu i1 (by omega)) (by omega) (by omega) (by omega) (by omega)
    · obtain ⟨q, i1, j1, i2, j2, o, r1, g, g2, o1, o2, h1, h2, h3, h4, e1, e2, f1, f2, f3, f4, f5, f6, f7⟩ := h
      have a1 := bd _ _ _ _ _ g
      have a2 := bd _ _ _ _ _ g2
      subst e1 e2
      have k0 : hs (ef2 S) i i = ((0 : Nat) : Int) := hs_le _ (Nat.le_refl _)
      have k1 : hs (ef2 S) i i1 = ((1 : Nat) : Int) := h1s _ _ _ _ _ (by omega) g
      have hb2 := HH i2 (by omega) (by omega)
      rw [hs_add (m := i1) (by omega) i2 (by omega), k1, h1s _ _ _ _ _ (by omega) g2] at hb2
      have s2 := TRu_app (r := r1) (i2 := i1) (j2 := j1) hw1 hw h0 (nu i1 (by omega)) (TRu_nil (l := l) (Gr := Gr) (n := n) (d := d) (i := i) (j := j)) (fun A1 B1 st1 _ x1 => sub 0 r1 i i1 j j1 st1 A1 B1 g k0 (by omega) (by omega) (by omega) x1)
      have s4 := TRu_app (r := r1) (i2 := i2) (j2 := j2) hw1 hw h0 (nu i2 (by omega)) s2 (fun A1 B1 st1 _ x1 => sub 1 r1 i1 i2 j1 j2 st1 A1 B1 g2 k1 (by omega) (by omega) (by omega) x1)
      by_cases z : o = 12 ∨ o = 13
      · have er : r1 = 0 := h3 (by omega)
        subst er
        have e0 : r = 0 := by rw [h4, if_neg (by omega)]
        subst e0
        exact lx_shf hg ho hw1 hw cx h0 (TRu_le s4 (by omega)) z f1 f3 f4 f5 (f7 z).1 (by omega) (by omega) (by omega) (by omega)
      · exact lx_bin hg ho hw1 hw cx h0 (TRu_le s4 (by omega)) ⟨o1, o2, by omega, by omega⟩ h1 h3 h4 f1 f2 f4 f5 f6 (by omega) (by omega) (by omega) (by omega)
    · obtain ⟨i1, j1, i2, j2, i3, j3, g, g2, g3, e1, e2, f1, f2, f3, f4⟩ := h
      have a1 := bd _ _ _ _ _ g
      have a2 := bd _ _ _ _ _ g2
      have a3 := bd _ _ _ _ _ g3
      subst e1 e2
      have k0 : hs (ef2 S) i i = ((0 : Nat) : Int) := hs_le _ (Nat.le_refl _)
      have k1 : hs (ef2 S) i i1 = ((1 : Nat) : Int) := h1s _ _ _ _ _ (by omega) g
      have k2 : hs (ef2 S) i i2 = ((2 : Nat) : Int) := by rw [hs_add (m := i1) (by omega) i2 (by omega), k1, h1s _ _ _ _ _ (by omega) g2]; rfl
      have hb2 := HH i3 (by omega) (by omega)
      rw [hs_add (m := i2) (by omega) i3 (by omega), k2, h1s _ _ _ _ _ (by omega) g3] at hb2
      have s2 := TRu_app (r := 1) (i2 := i1) (j2 := j1) hw1 hw h0 (nu i1 (by omega)) (TRu_nil (l := l) (Gr := Gr) (n := n) (d := d) (i := i) (j := j)) (fun A1 B1 st1 _ x1 => sub 0 1 i i1 j j1 st1 A1 B1 g k0 (by omega) (by omega) (by omega) x1)
      have s4 := TRu_app (r := r) (i2 := i2) (j2 := j2) hw1 hw h0 (nu i2 (by omega)) s2 (fun A1 B1 st1 _ x1 => sub 1 r i1 i2 j1 j2 st1 A1 B1 g2 k1 (by omega) (by omega) (by omega) x1)
      have s6 := TRu_app (r := r) (i2 := i3) (j2 := j3) hw1 hw h0 (nu i3 (by omega)) s4 (fun A1 B1 st1 _ x1 => sub 2 r i2 i3 j2 j3 st1 A1 B1 g3 k2 (by omega) (by omega) (by omega) x1)
      have hr1 : r ≤ 1 := aE_r _ _ _ _ _ _ g2
      exact lx_sel hg ho hw1 hw cx h0 (TRu_le s6 (by omega)) hr1 f1 f2 f3 f4 (by omega) (by omega) (by omega) (by omega)
    · obtain ⟨j1, g, e1, f1, f2, f3⟩ := h
      have a1 := bd _ _ _ _ _ g
      subst e1
      have s0 := lx_stp (l := l) (n := n) (d := d) (z := 21) hg ho hw1 hw cx h0 (by omega) f1 f2 (by omega) (by omega) (by omega)
      have k0 : hs (ef2 S) i (i + 1) = ((0 : Nat) : Int) := hs_1 (ef_o f1 (by decide) (by decide))
      exact lx_bra hg cx h0 s0 (fun A1 B1 st1 _ x1 => sub 0 r (i + 1) i' (j + 1) j1 st1 A1 B1 g k0 (by omega) (by omega) (by omega) x1) (nu i' (by omega)) f3 (by omega)
theorem lx_all (hg : ip_gk (lg_tbl, vwCl, Gr)) (ho : ip_old (lg_tbl, vwCl, Gr)) (hw1 : 1 ≤ w) (hw : w ≤ 32) (cx : CTX S T N M) (hD : D ≤ 800) (nu : ∀ x, x ≤ N → ur S x ≤ 30) : ∀ mf nn, LXA l Gr n w d D N M S T mf nn := by
  intro mf
  induction mf with
  | zero => exact lx_one hg ho hw1 hw cx hD nu (fun m' e => absurd e (by omega))
  | succ m ih => exact lx_one hg ho hw1 hw cx hD nu (fun m' e => by
      have : m' = m := by omega
      subst this
      exact ih)
end XAL
