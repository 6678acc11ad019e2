/-! mean() beside build: every EXPR -/
def OXA (l l2 : Launch) (Gr Gr2 : zG) (n w d d2 : Nat) (inb : Nat → Nat) (wb : Nat) (act : Prop) (D N M : Nat) (S T : zS) (mf nn : Nat) : Prop := ∀ (Av : Nat → Nat → Prop) (rf cd hrb r i i' j j' hr st hE U p : Nat) (B C : zS), aE w D Av S T nn r i i' j j' → AvO S Av cd → DEn w D N M S T mf Av p → cd + mf ≤ 285 → hr ≤ hE → 2 * U + p ≤ 4000 → (∀ x, i ≤ x → x ≤ i' → (hE : Int) + hs (ef2 S) i x ≤ U) → i' ≤ N → j' ≤ M → MXS inb wb w act Av S T rf cd hrb hr st B C → OX l l2 Gr Gr2 n w d d2 inb wb act Av S T rf cd hrb r j j' hr st B C
section OAL
variable {l l2 : Launch} {Gr Gr2 : zG} {n w d d2 : Nat} {inb : Nat → Nat} {wb : Nat} {act : Prop} {Av A0 : Nat → Nat → Prop} {S T B C : zS} {rf cd hrb i i' hr st r i1 i2 j j' j1 j2 N M z e D a m p k hE U mf nn t : Nat} {os : List Nat}
theorem PB_sub (h : PB T j j') (a1 : j ≤ j1) (a2 : j2 ≤ j') : PB T j1 j2 := fun x q1 q2 => h x (by omega) (by omega)
theorem ox_args (hg : ip_gk (lg_tbl, vwCl, Gr)) (hg2 : ip_gk (lg_tbl, vwCl, Gr2)) (hw1 : 1 ≤ w) (hw : w ≤ 32) (hi : ∀ t, inb t = 0 ∨ inb t = 1) (cx : CTX S T N M) (hD : D ≤ 800) (ih : OXA l l2 Gr Gr2 n w d d2 inb wb act D N M S T mf nn) (av : AvO S Av cd) (dn : DEn w D N M S T mf Av p) (hcd : cd + mf ≤ 285) (hhr : hr ≤ hE) (hU : 2 * U + p ≤ 4000) (HH : ∀ x, i ≤ x → x ≤ i' → (hE : Int) + hs (ef2 S) i x ≤ U) (e28 : ef2 S i = 0) (h1 : OU l l2 Gr Gr2 n w d d2 inb wb act Av S T rf cd hrb [] (fun _ => False) j (j + 2) hr st B C) : ∀ (m i1 j1 : Nat), aA S T (aE w D Av S T nn) e m (i + 1) i1 (j + 2) j1 → i1 ≤ i' → i' ≤ N → j1 ≤ M → ∃ os : List Nat, os.length = m ∧ (∀ c, c < m → S.1 12 (e + 1 + c) = nI (os.getD c 0) ∧ os.getD c 0 ≤ 1) ∧ OU l l2 Gr Gr2 n w d d2 inb wb act Av S T rf cd hrb os (fun _ => False) j j1 hr st B C
  | 0, i1, j1, h, _, _, _ => ⟨[], rfl, fun c hc => absurd hc (by omega), by rw [h.2]; exact h1⟩
  | m + 1, i1, j1, h, hi1, hi', hj1 => by
    obtain ⟨i2, j2, r, i3, j3, g1, hr1, g2, e1, e2, f1, f2, f3⟩ := h
    have bd := aE_bnd (w := w) (D := D) (A := Av) (S := S) (T := T) nn
    have a1 := aA_bnd bd _ _ _ _ _ g1
    have a2 := bd _ _ _ _ _ g2
    obtain ⟨os, hl, hos, tr⟩ := ox_args hg hg2 hw1 hw hi cx hD ih av dn hcd hhr hU HH e28 h1 m i2 j2 g1 (by omega) hi' (by omega)
    have hN := cx.2.1
    have k1 : hs (ef2 S) i i2 = (m : Int) := by
      rw [hs_c (by omega) e28, hsA bd (fun p i i' j j' q1 q2 => hs1 hN hD nn p i i' j j' q1 q2) m _ _ _ _ (by omega) g1]
      omega
    have tr2 := OU_app (r := r) (j2 := j3) hw1 hw hi tr (fun q => q.elim) (fun B1 C1 st1 x1 => ih Av rf cd hrb r i2 i3 j2 j3 (hr + os.length) st1 (hE + m) U p B1 C1 g2 av dn hcd (by omega) hU (hsub HH k1 (by omega) (by omega)) (by omega) (by omega) x1)
    refine ⟨os ++ [r], by rw [List.length_append, hl]; rfl, fun c hc => ?_, ?_⟩
    · by_cases z : c < m
      · rw [gd_l (by omega)]
        exact hos c z
      · have ec : c = os.length := by omega
        subst ec
        rw [gd_r, hl]
        exact ⟨f1, hr1⟩
    · rw [e2]
      exact OU_pass (z := 16) hg hg2 cx.2.2.1 cx.2.2.2 (by omega) f3 (by omega) tr2
theorem ox_one (hg : ip_gk (lg_tbl, vwCl, Gr)) (hg2 : ip_gk (lg_tbl, vwCl, Gr2)) (hw1 : 1 ≤ w) (hw : w ≤ 32) (hi : ∀ t, inb t = 0 ∨ inb t = 1) (cx : CTX S T N M) (hD : D ≤ 800) (hbd : ∀ m', mf = m' + 1 → ∀ nn, OXA l l2 Gr Gr2 n w d d2 inb wb act D N M S T m' nn) : ∀ nn, OXA l l2 Gr Gr2 n w d d2 inb wb act D N M S T mf nn := by
  have hN := cx.2.1
  have hM := cx.2.2.2
  intro nn
  induction nn with
  | zero =>
    intro Av rf cd hrb r i i' j j' hr st hE U p B C h
    exact h.elim
  | succ nn ih =>
    intro Av rf cd hrb r i i' j j' hr st hE U p B C h av dn hcd hhr hU HH hi' hj' h0
    have bd := aE_bnd (w := w) (D := D) (A := Av) (S := S) (T := T) nn
    have h1s := hs1 (w := w) (D := D) (A := Av) (S := S) (T := T) hN hD nn
    have bi := aE_bnd (w := w) (D := D) (A := Av) (S := S) (T := T) (nn + 1) r i i' j j' h
    have hI := HH i (Nat.le_refl _) (by omega)
    have hb := h0.2.2.1
    rw [hs_le _ (Nat.le_refl _)] at hI
    have sub : ∀ (t r' i1 i2 j1 j2 st1 : Nat) (B1 C1 : zS), aE w D Av S T nn r' i1 i2 j1 j2 → hs (ef2 S) i i1 = (t : Int) → i ≤ i1 → i2 ≤ i' → j2 ≤ j' → MXS inb wb w act Av S T rf cd hrb (hr + t) st1 B1 C1 → OX l l2 Gr Gr2 n w d d2 inb wb act Av S T rf cd hrb r' j1 j2 (hr + t) st1 B1 C1 := fun t r' i1 i2 j1 j2 st1 B1 C1 g ht a1 a2 a3 x1 => ih Av rf cd hrb r' i1 i2 j1 j2 (hr + t) st1 (hE + t) U p B1 C1 g av dn hcd (by omega) hU (hsub HH ht a1 a2) (by omega) (by omega) x1
    have stp : ∀ cs, T.1 78 j = 1 → OU l l2 Gr Gr2 n w d d2 inb wb act Av S T rf cd hrb [] cs j (j + 1) hr st B C := fun cs t1 => OU_step hg hg2 hw1 hw hi cx.2.2.1 hM (by omega) t1 h0
    rcases h with h | h | h | h | h | h | h | h | h | h | h
    · exact ox_num hg hg2 hw1 hw hi cx h0 h (by obtain ⟨_, _, _, _, e2, _⟩ := h; omega) (by omega)
    · exact ox_tru hg hg2 hw1 hw hi cx h0 h (by obtain ⟨_, _, e2, _⟩ := h; omega) (by omega)
    · exact ox_nam hg hg2 hw1 hw hi cx h0 av (by omega) h (by obtain ⟨_, _, _, _, _, _, e2, _⟩ := h; omega) (by omega)
    · obtain ⟨e, k, z, a, pb, q, i1, j1, h1, hz, hp, g, e1, e2, f1, f2, f3, f4, f5, f6, f7, f8, f9, f10, f11, f12, f13⟩ := h
      have a1 := bd _ _ _ _ _ g
      subst e1 e2
      have s1 := OU_pass (z := 6) hg hg2 cx.2.2.1 hM (by omega) f10 (by omega) (stp (fun _ => PB T (j + 2) j1) f9)
      have k0 : hs (ef2 S) i (i + 1) = ((0 : Nat) : Int) := hs_1 (ef_o f1 (by decide) (by decide))
      have s2 := OU_app (r := 0) (j2 := j1) hw1 hw hi s1 (fun q => q) (fun B1 C1 st1 x1 => sub 0 0 (i + 1) i1 (j + 2) j1 st1 B1 C1 g k0 (by omega) (by omega) (by omega) x1)
      exact ox_elt hg hg2 hw1 hw hi cx hb av s2 h1 hz hp (fun y => f13.2 y) (fun pb => (pb j1 (by omega) (by omega)).1 f11) f11 f13.1 (by omega) (by omega)
    · obtain ⟨e, z, a, m, i1, j1, h1, g, hd, h15, e1, e2, f1, f2, f3, f4, f5, f6, f7, f8⟩ := h
      have a1 := aA_bnd bd _ _ _ _ _ g
      subst e1 e2
      obtain ⟨q1, q2, q3, q4, q5, q6, q7', q8, q9, q10, q11, q12, q13, q14⟩ := h1
      have q7 : S.1 11 e = 4 := q7'
      cases mf with
      | zero => exact absurd q7 (dn e a q6)
      | succ m' =>
        obtain ⟨A0, r0, k, ib, ib', jb', p0, p1, ⟨d1, d2', d3, d4, d5, d6, d7⟩, ⟨nb, dx⟩, ⟨v1, v2, v3, v4, v5, v6, v7, v8⟩, dh, dn'⟩ := dn e a q6 q7
        have ek : k = m := (nI_eq (by omega) (by omega)).mp (d6.symm.trans h15)
        have er : r0 = r := (nI_eq (by omega) (by omega)).mp (d3.symm.trans q8)
        subst ek er
        have e28 : ef2 S i = 0 := ef_o f1 (by decide) (by decide)
        have s1 := OU_pass (z := 8) hg hg2 cx.2.2.1 hM (by omega) f6 (by omega) (stp (fun _ => False) f5)
        obtain ⟨os, hl, hos, tr⟩ := ox_args hg hg2 hw1 hw hi cx hD ih av dn hcd hhr hU HH e28 s1 k i1 j1 g (by omega) hi' (by omega)
        subst hl
        have hb1 := HH i1 (by omega) (by omega)
        rw [hs_c (by omega) e28, hsA bd (fun p i i' j j' q1 q2 => h1s p i i' j j' q1 q2) os.length _ _ _ _ (by omega) g] at hb1
        have ba := aE_bnd (w := w) (D := D) (S := S) (T := T) nb _ _ _ _ _ dx
        refine ox_cal (Av' := dfA A0 S e os.length) (e := e) (jb' := jb') (c1 := PB T (a + os.length + 2) jb') hg hg2 hw1 hw hi cx hb tr (fun pb => (pb j1 (by omega) (by omega)).2.1 f7) q5 q12 (fun e' a' y => ?_) (fun c hc => ⟨(d7 c hc).1, hos c hc⟩) f7 v3 v2 (by omega) v5 (by omega) (by omega) (fun B' C' st' x' => ?_)
        · rcases y with ⟨-, y⟩ | y
          · exact Or.inl y
          · exact Or.inr y
        · refine hbd m' rfl nb (dfA A0 S e os.length) hr (cd + 1) (hr + os.length) r0 ib ib' (a + os.length + 2) jb' (hr + os.length) st' (hE + os.length) (U + (p1 - p0) / 2) p0 B' C' dx (AvO_df dn' (fun c hc => ⟨(d7 c hc).1, (d7 c hc).2.1⟩)) (DEn_df dn' (fun c hc => (d7 c hc).1)) (by omega) (by omega) (by omega) (fun x y1 y2 => ?_) (by omega) (by omega) x'
          have := dh x y1 y2
          omega
    · obtain ⟨i1, j1, g, e0, e1, e2, f1, f2, f3, f4⟩ := h
      have a1 := bd _ _ _ _ _ g
      subst e0 e1 e2
      have k0 : hs (ef2 S) i (i + 1) = ((0 : Nat) : Int) := hs_1 (ef_o f1 (by decide) (by decide))
      have s2 := OU_app (r := 1) (j2 := j1) hw1 hw hi (stp (fun _ => PB T j (j1 + 1)) f3) (fun q => PB_sub q (by omega) (by omega)) (fun B1 C1 st1 x1 => sub 0 1 (i + 1) i1 (j + 1) j1 st1 B1 C1 g k0 (by omega) (by omega) (by omega) x1)
      exact ox_int hg hg2 hw1 hw hi cx hb s2 f4 (by omega) (by omega)
    · obtain ⟨q, i1, j1, i2, j2, g, g2, e0, e1, e2, f1, f2, f3, f4, f5, f6, f7, f8⟩ := h
      have a1 := bd _ _ _ _ _ g
      have a2 := bd _ _ _ _ _ g2
      subst e0 e1 e2
      have k0 : hs (ef2 S) i (i + 1) = ((0 : Nat) : Int) := hs_1 (ef_o f1 (by decide) (by decide))
      have k1 : hs (ef2 S) i i1 = 1 := by rw [hs_c (by omega) (ef_o f1 (by decide) (by decide) : ef2 S i = 0), h1s _ _ _ _ _ (by omega) g]; rfl
      have k2 : hs (ef2 S) i (i1 + 1) = ((1 : Nat) : Int) := by rw [hs_n (e2 := 0) (by omega) (ef_o f2 (by decide) (by decide)), k1]; rfl
      have hb2 := HH i2 (by omega) (by omega)
      rw [hs_add (m := i1 + 1) (by omega) i2 (by omega), k2, h1s _ _ _ _ _ (by omega) g2] at hb2
      have s2 := OU_app (r := 0) (j2 := j1) hw1 hw hi (stp (fun t => if t = 0 then PB T j (j2 + 1) else True) f5) (fun q => PB_sub q (by omega) (by omega)) (fun B1 C1 st1 x1 => sub 0 0 (i + 1) i1 (j + 1) j1 st1 B1 C1 g k0 (by omega) (by omega) (by omega) x1)
      have s3 := OU_pass (z := 16) hg hg2 cx.2.2.1 hM (by omega) f6 (by omega) s2
      have s4 := OU_app (r := 0) (j2 := j2) hw1 hw hi s3 (fun _ => f8.2) (fun B1 C1 st1 x1 => sub 1 0 (i1 + 1) i2 (j1 + 1) j2 st1 B1 C1 g2 k2 (by omega) (by omega) (by omega) x1)
      exact ox_bit hg hg2 hw1 hw hi cx hb s4 (fun q => q) trivial f7 (by omega) (by omega)
    · obtain ⟨i1, j1, g, e1, e2, f1, f2⟩ := h
      have a1 := bd _ _ _ _ _ g
      subst e1 e2
      have s2 := OU_app (r := r) (j2 := j1) hw1 hw hi (OU_nil (l := l) (l2 := l2) (Gr := Gr) (Gr2 := Gr2) (n := n) (d := d) (d2 := d2) (j := j) (cs := fun _ => PB T j (j1 + 1)) h0) (fun q => PB_sub q (by omega) (by omega)) (fun B1 C1 st1 x1 => sub 0 r i i1 j j1 st1 B1 C1 g (hs_le _ (Nat.le_refl _)) (Nat.le_refl _) (by omega) (by omega) x1)
      exact ox_una hg hg2 hw1 hw hi cx hb s2 f1 (by
        rcases f2 with ⟨-, q⟩ | ⟨-, q⟩ | ⟨-, q⟩
        · exact Or.inl q
        · exact Or.inr (Or.inl q)
        · exact Or.inr (Or.inr q)) (by omega) (by omega)
    · obtain ⟨q, i1, j1, i2, j2, o, r1, g, g2, o1, o2, h1, h2, h3, h4, e1, e2, f1, f2, f3, f4, f5, f6, f7⟩ := h
      have a1 := bd _ _ _ _ _ g
      have a2 := bd _ _ _ _ _ g2
      subst e1 e2
      have k0 : hs (ef2 S) i i = ((0 : Nat) : Int) := hs_le _ (Nat.le_refl _)
      have k1 : hs (ef2 S) i i1 = ((1 : Nat) : Int) := h1s _ _ _ _ _ (by omega) g
      have hb2 := HH i2 (by omega) (by omega)
      rw [hs_add (m := i1) (by omega) i2 (by omega), k1, h1s _ _ _ _ _ (by omega) g2] at hb2
      by_cases z : o = 12 ∨ o = 13
      · have er : r1 = 0 := h3 (by omega)
        subst er
        have e0 : r = 0 := by rw [h4, if_neg (by omega)]
        subst e0
        have s2 := OU_app (r := 0) (j2 := j1) hw1 hw hi (OU_nil (l := l) (l2 := l2) (Gr := Gr) (Gr2 := Gr2) (n := n) (d := d) (d2 := d2) (j := j) (cs := fun t => if t = 0 then PB T j (j2 + 1) else True) h0) (fun q => PB_sub q (by omega) (by omega)) (fun B1 C1 st1 x1 => sub 0 0 i i1 j j1 st1 B1 C1 g k0 (by omega) (by omega) (by omega) x1)
        have s4 := OU_app (r := 0) (j2 := j2) hw1 hw hi s2 (fun _ => (f7 z).2) (fun B1 C1 st1 x1 => sub 1 0 i1 i2 j1 j2 st1 B1 C1 g2 k1 (by omega) (by omega) (by omega) x1)
        exact ox_shf hg hg2 hw1 hw hi cx hb s4 (fun q => q) trivial z f4 f5 (by omega) (by omega)
      · have s2 := OU_app (r := r1) (j2 := j1) hw1 hw hi (OU_nil (l := l) (l2 := l2) (Gr := Gr) (Gr2 := Gr2) (n := n) (d := d) (d2 := d2) (j := j) (cs := fun _ => PB T j (j2 + 1)) h0) (fun q => PB_sub q (by omega) (by omega)) (fun B1 C1 st1 x1 => sub 0 r1 i i1 j j1 st1 B1 C1 g k0 (by omega) (by omega) (by omega) x1)
        have s4 := OU_app (r := r1) (j2 := j2) hw1 hw hi s2 (fun q => PB_sub q (by omega) (by omega)) (fun B1 C1 st1 x1 => sub 1 r1 i1 i2 j1 j2 st1 B1 C1 g2 k1 (by omega) (by omega) (by omega) x1)
        exact ox_bin hg hg2 hw1 hw hi cx hb s4 ⟨o1, o2, by omega, by omega⟩ h1 h3 h4 f4 f5 f6 (by omega) (by omega)
    · obtain ⟨i1, j1, i2, j2, i3, j3, g, g2, g3, e1, e2, f1, f2, f3, f4⟩ := h
      have a1 := bd _ _ _ _ _ g
      have a2 := bd _ _ _ _ _ g2
      have a3 := bd _ _ _ _ _ g3
      subst e1 e2
      have k0 : hs (ef2 S) i i = ((0 : Nat) : Int) := hs_le _ (Nat.le_refl _)
      have k1 : hs (ef2 S) i i1 = ((1 : Nat) : Int) := h1s _ _ _ _ _ (by omega) g
      have k2 : hs (ef2 S) i i2 = ((2 : Nat) : Int) := by rw [hs_add (m := i1) (by omega) i2 (by omega), k1, h1s _ _ _ _ _ (by omega) g2]; rfl
      have hb2 := HH i3 (by omega) (by omega)
      rw [hs_add (m := i2) (by omega) i3 (by omega), k2, h1s _ _ _ _ _ (by omega) g3] at hb2
      have s2 := OU_app (r := 1) (j2 := j1) hw1 hw hi (OU_nil (l := l) (l2 := l2) (Gr := Gr) (Gr2 := Gr2) (n := n) (d := d) (d2 := d2) (j := j) (cs := fun _ => PB T j (j3 + 1)) h0) (fun q => PB_sub q (by omega) (by omega)) (fun B1 C1 st1 x1 => sub 0 1 i i1 j j1 st1 B1 C1 g k0 (by omega) (by omega) (by omega) x1)
      have s4 := OU_app (r := r) (j2 := j2) hw1 hw hi s2 (fun q => PB_sub q (by omega) (by omega)) (fun B1 C1 st1 x1 => sub 1 r i1 i2 j1 j2 st1 B1 C1 g2 k1 (by omega) (by omega) (by omega) x1)
      have s6 := OU_app (r := r) (j2 := j3) hw1 hw hi s4 (fun q => PB_sub q (by omega) (by omega)) (fun B1 C1 st1 x1 => sub 2 r i2 i3 j2 j3 st1 B1 C1 g3 k2 (by omega) (by omega) (by omega) x1)
      exact ox_sel hg hg2 hw1 hw hi cx hb s6 (aE_r _ _ _ _ _ _ g2) f3 f4 (by omega) (by omega)
    · obtain ⟨j1, g, e1, f1, f2, f3⟩ := h
      have a1 := bd _ _ _ _ _ g
      subst e1
      have k0 : hs (ef2 S) i (i + 1) = ((0 : Nat) : Int) := hs_1 (ef_o f1 (by decide) (by decide))
      have s2 := OU_app (r := r) (j2 := j1) hw1 hw hi (stp (fun _ => PB T j (j1 + 1)) f2) (fun q => PB_sub q (by omega) (by omega)) (fun B1 C1 st1 x1 => sub 0 r (i + 1) i' (j + 1) j1 st1 B1 C1 g k0 (by omega) (by omega) (by omega) x1)
      exact OU_pass (z := 15) hg hg2 cx.2.2.1 hM (by omega) f3 (by omega) s2
theorem ox_all (hg : ip_gk (lg_tbl, vwCl, Gr)) (hg2 : ip_gk (lg_tbl, vwCl, Gr2)) (hw1 : 1 ≤ w) (hw : w ≤ 32) (hi : ∀ t, inb t = 0 ∨ inb t = 1) (cx : CTX S T N M) (hD : D ≤ 800) : ∀ mf nn, OXA l l2 Gr Gr2 n w d d2 inb wb act D N M S T mf nn := by
  intro mf
  induction mf with
  | zero => exact ox_one hg hg2 hw1 hw hi cx hD (fun m' e => absurd e (by omega))
  | succ m ih => exact ox_one hg hg2 hw1 hw hi cx hD (fun m' e => by
      have : m' = m := by omega
      subst this
      exact ih)
end OAL
