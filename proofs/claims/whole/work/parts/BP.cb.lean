/-! SORTS of one EXPR on both sides: ARGUMENT and CALL -/
section LCb
variable {l : Launch} {Gr : zG} {n w : Nat} {d : Nat} {A : Nat → Nat → Prop} {b : Nat → Int32} {t N D m f tp mp c sz mz p p1 p2 i i' i1 i2 j j' j1 j2 x o a u d' aa q r k : Nat} {S S' S'' S1 S2 T T' T'' T1 T2 : zS}
theorem ex_arg (hg : ip_gk (lg_tbl, vwCl, Gr)) (h : LX b t N D m f A (tp + 1) (mp + k + 1) (c + 1) sz mz S T) (htp : tp < 372) (hmp : mp + k < 4200) (hc : c < 400) (hi : i2 < sz) (hii : i < i2) (hj : j2 < mz) (hC : CLS A S T D m i c mp u d' aa q r) (hk : k < aa) {i0 j0 : Nat} (hP : PT w D A S T tp (mp + k) p1 i0 i2 j0 j2) (s1 : S.1 4 i2 = 29) (s5 : S.1 5 i2 = nI i) (s6 : S.1 6 i2 = nI p1) (s7 : S.1 7 i2 = nI k) (t1 : T.1 78 j2 = 16) (t2 : T.1 79 j2 = nI o) (ho : o < 12000) : (∃ S', CG l Gr n w d S i2 S' (i2 + 1) ∧ S' = kS b t S i2 ∧ RG l Gr n w d T j2 T (j2 + 1) ∧ LX b t N D m f A tp (mp + k + 1) (c + 1) sz mz S' T ∧ KKc S S' i2 (i2 + 1) tp ∧ ∃ rk, rk ≤ 1 ∧ S'.1 12 (d' + 1 + k) = nI rk ∧ aX w D A rk S' T i0 i2 j0 j2) ∨ FLT l Gr n w d b t S T i2 (i2 + 1) j2 := by
  obtain ⟨-, h1, h2, h3, h4, h5, h6, h7, h8, h9, h10, h11, -⟩ := hC
  have hsz := h.2.1.2.1
  have hm := h.1.2.1.2.1
  have hD := h.1.1.2.2.2.2
  obtain ⟨r0, pb, hr0, hpb, b1, b2, b3, b4, b5, -⟩ := hP
  obtain ⟨g8, rk, hrk, g12⟩ := h8 k hk
  have l3 := h.2.2.1
  have l5 := h.2.1.2.2
  have l7 := h.2.2.2.1.2.2
  have gk := g_29 (l := l) (Gr := Gr) (n := n) (w := w) (d := d) (b := b) (t := t) (a := k) hg (LX_ci (i := i2) h hi) s1 l3 htp s5 (by omega) s7 h3 (by omega)
  have rr := r_16 (l := l) (Gr := Gr) (n := n) (w := w) (d := d) (m := mp + k) (m0 := mp) (o := o) hg (LX_ri (j := j2) h hj) t1 h.2.2.2.2.1 hmp t2 ho h.2.2.2.2.2 hc h4 (by omega) h5 (by omega) h6 (by omega)
  rw [show mp + k - mp = k by omega, g8, g12, mMu_v (T := T) (mp := mp + k) (wt := rk) l7 hr0 hrk b2 b4] at rr
  rw [s5, nI_clamp (n := i) (by omega), h3, s7, nI_1, nI_add, nI_clamp (n := d' + 1 + k) (by omega), g12, kMust_v (S := S) (i := i2) (wt := rk) l3 htp hr0 hpb hrk b1 s6] at gk
  have f5 : (kPop S).1 3 5 = 0 := (kPop_c (by omega)).trans l5
  by_cases z : r0 = rk
  · left
    rw [if_pos z] at gk rr
    have kc : KKc S (kPop S) i2 (i2 + 1) tp := ⟨fun c k q1 q2 q3 q4 => kPop_c q3, fun _ _ => rfl⟩
    exact ⟨kPop S, gk.2, gk.1.symm, rr, LX_k h kc (KKm_rfl (j := 0) (j' := 0) (mp := 0) (c := 0)) f5 (kPop_3 l3) l7 h.2.2.2.2.1 h.2.2.2.2.2, kc, rk, hrk, (kc.1 12 _ (by omega) (by omega) (by omega) (by omega)).trans g12, by rw [← z]; exact aX_k b5 (anS_k kc (Or.inl (Nat.le_refl _))) anT_rfl⟩
  · right
    rw [if_neg z] at gk rr
    have v := kT_0 (g := 5) (pl := nI p1) f5
    exact FLT_1 (g := 5) (pl := nI p1) l5 (by decide) (Nat.le_refl _) gk.1 gk.2 v.1 v.2 rr mF_f.1 mF_f.2
theorem ex_ca1 (hg : ip_gk (lg_tbl, vwCl, Gr)) (h : LX b t N D m f A tp (mp + aa) (c + 1) sz mz S T) (htp : tp < 372) (hmp : mp < 4200) (hc : c < 400) (hi : i1 < sz) (hii : i < i1) (hj : j1 < mz) (hC : CLS A S T D m i c mp u d' aa q r) (s1 : S.1 4 i1 = 30) (s5 : S.1 5 i1 = nI i) (t1 : T.1 78 j1 = 9) (t3 : T.1 81 j1 = nI p) (hjj : j + 2 ≤ j1) (s0 : S.1 4 i = 28) (t0 : T.1 78 j = 1) (t2 : T.1 78 (j + 1) = 8) (hxA : aA S T (fun r i i' j j' => aX w D A r S T i i' j j') d' aa (i + 1) i1 (j + 2) j1) : ∃ S' T', CG l Gr n w d S i1 S' (i1 + 1) ∧ S' = kS b t S i1 ∧ RG l Gr n w d T j1 T' (j1 + 1) ∧ LX b t N D m f A (tp + 1) (mp + 1) c sz mz S' T' ∧ KKc S S' i1 (i1 + 1) tp ∧ KKm T T' j1 (j1 + 1) mp c ∧ PT w D A S' T' tp mp p i (i1 + 1) j (j1 + 1) := by
  obtain ⟨⟨z, a0, o1, o2, o3, o4, o5, o6, o7, o8, o9⟩, h1, h2, h3, h4, h5, h6, h7, h8, h9, h10, h11, h12⟩ := hC
  have hsz := h.2.1.2.1
  have hm := h.1.2.1.2.1
  have hD := h.1.1.2.2.2.2
  have l3 := h.2.2.1
  have l5 := h.2.1.2.2
  have l7 := h.2.2.2.1.2.2
  have gk := g_30 (l := l) (Gr := Gr) (n := n) (w := w) (d := d) (b := b) (t := t) hg (LX_ci (i := i1) h hi) s1 l3 htp s5 (by omega) h3 (by omega)
  have rr := r_9 (l := l) (Gr := Gr) (n := n) (w := w) (d := d) (c := c) (s := u) (m0 := mp) hg (LX_ri (j := j1) h hj) t1 h.2.2.2.2.2 hc h4 (by omega) h5 hmp
  rw [s5, nI_clamp (n := i) (by omega), h3, nI_clamp (n := d') (by omega), h10] at gk
  rw [h11, t3] at rr
  obtain ⟨Y, eY⟩ : ∃ Y, Y = zi (mRf (zi T 73 56 (nI c)) j1 u) 73 43 (nI mp) := ⟨_, rfl⟩
  rw [← eY] at rr
  have yk : ∀ c' k, ¬ (c' = 73 ∧ (k = 43 ∨ k = 56)) → ¬ ((102 ≤ c' ∧ c' ≤ 105) ∧ k = j1) → Y.1 c' k = T.1 c' k := fun c' k a1 a2 => by
    rw [eY, zi_get, if_neg (by omega)]
    unfold mRf
    rw [zi_get, if_neg (by omega), zi_get, if_neg (by omega), zi_get, if_neg (by omega), zi_get, if_neg (by omega), zi_get, if_neg (by omega)]
  have km : KKm T Y j1 (j1 + 1) mp c := ⟨fun c' k a1 a2 a3 a4 => yk c' k (by omega) (by omega), fun _ _ => by rw [eY]; rfl⟩
  have y56 : Y.1 73 56 = nI c := by rw [eY, zi_k (by decide), mRf_c (by omega)]; exact zi_v
  have L : LX b t N D m f A tp mp c sz mz S Y := LX_k h (KKc_rfl (i := 0) (i' := 0) (tp := 0)) km l5 l3 ((yk 73 7 (by omega) (by omega)).trans l7) (by rw [eY]; exact zi_v) y56
  have yR : ∀ c', 102 ≤ c' → c' ≤ 105 → Y.1 c' j1 = (mRf (zi T 73 56 (nI c)) j1 u).1 c' j1 := fun c' q1 q2 => by rw [eY, zi_c (by omega)]
  have mR := mRf_v (T := zi T 73 56 (nI c)) (j := j1) (s := u)
  have tz : ∀ cc, 91 ≤ cc → (zi T 73 56 (nI c)).1 cc u = T.1 cc u := fun cc q => zi_c (by omega)
  have anY : anT T Y j j1 := ⟨fun c' k q => yk c' k (by omega) (by omega), fun _ => by rw [eY]; rfl⟩
  have hx : aX w D A r S Y i (i1 + 1) j (j1 + 1) := aX_cal ⟨d', z, a0, aa, i1, j1, ⟨by omega, by omega, h9, o1, o2, o3, o4, h10, o5, fun q => absurd (Or.inr rfl) q, (yR 102 (by omega) (by omega)).trans (mR.1.trans ((tz 91 (by omega)).trans o7)), (yR 103 (by omega) (by omega)).trans (mR.2.1.trans ((tz 94 (by omega)).trans o9)), (yR 104 (by omega) (by omega)).trans (mR.2.2.1.trans ((tz 93 (by omega)).trans o8)), (yR 105 (by omega) (by omega)).trans (mR.2.2.2.trans ((tz 92 (by omega)).trans h11))⟩, aA_cong (fun _ _ _ _ _ y => aX_bnd y) (fun _ _ _ _ _ y q1 q2 => aX_k y q1 q2) _ _ _ _ _ hxA anS_rfl (anT_sub anY (by omega) (Nat.le_refl _)), h2, o6, rfl, rfl, s0, h3, s1, s5, (anY.1 78 j (by omega)).trans t0, (anY.1 78 (j + 1) (by omega)).trans t2, (yk 78 j1 (by omega) (by omega)).trans t1, h12⟩
  obtain ⟨f1, f2, f3, f4⟩ := lx_push (p := p) (i := i1) (i' := i1 + 1) (j := j1) (j' := j1 + 1) (r := r) (pb := 0) (xv := nI r) (q := nI p) (pv := 0) L htp h9 (by omega) rfl (by decide) rfl hx (fun y => absurd y (by decide))
  exact ⟨_, _, gk.2, gk.1.symm, rr, f1, f2, KKm_tr km f3 (Nat.le_refl _) (Nat.le_refl _) (Nat.le_refl _) (Nat.le_refl _), f4⟩
end LCb
