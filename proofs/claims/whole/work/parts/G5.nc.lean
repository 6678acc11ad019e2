/-! mean() beside build: NAME = EXPR, var, a[i] = EXPR -/
section OSS
variable {l l2 : Launch} {Gr Gr2 : zG} {n w d d2 : Nat} {inb : Nat → Nat} {wb : Nat} {act : Prop} {Av Av' : Nat → Nat → Prop} {S T B B' B1 B2 C C' C1 C2 X : zS} {j0 u nv vw sd st j j' j1 j2 t a r z e p M N hr hr2 cd rf k D pb : Nat} {vb vq vt : Nat → Nat} {Z : Nat → zS → zS → Prop} {cs : Nat → Prop} {R : zS → Prop} {V : Nat → Int32}
theorem ms_1 (hg : ip_gk (lg_tbl, vwCl, Gr)) (cx : CTX S T N M) (hB : MCo T B) (h7 : B.1 73 7 = 0) (hj : j < M) (h78 : T.1 78 j = nI z) (hz : 20 ≤ z) (hz2 : z < 100) (q : zMi l Gr (zc n w) 168 M_Mo_statement (d + 11) [.ref 105, .int (nI j)] B (fun v B' => v = nI (j + 1) ∧ R B')) : ∃ B', R B' ∧ MGo l Gr n w d B j B' (j + 1) := by
  obtain ⟨x, B', ⟨ex, hR⟩, q⟩ := zMi_det q
  subst ex
  exact ⟨B', hR, mg_s hg hj cx.2.2.2 (hB.1.trans cx.2.2.1) h7 ((hB.2.1 78 j (by omega)).trans h78) hz hz2 q⟩
theorem nst_1 (hg2 : ip_gk (lg_tbl, vwCl, Gr2)) (cx : CTX S T N M) (hC : MN T rf cd hr C) (hj : j < M) (h78 : T.1 78 j = nI z) (hz : 20 ≤ z) (hz2 : z < 100) (q : zMi l2 Gr2 (zc n w) 168 M_Mo_meanStatement (d2 + 2) [.ref 105, .int (nI j)] C (fun y X' => y = nI j' ∧ X' = X)) : NGo l2 Gr2 n w d2 C j X j' := ng_s hg2 hj cx.2.2.2 (hC.1.1.trans cx.2.2.1) ((hC.1.2.1 78 j (by omega)).trans h78) hz hz2 q
theorem MB_f (hB : MB T wb rf cd hr st B) (f : ∀ c k, (c = 73 ∧ (k = 13 ∨ k = 70 ∨ k = 110)) ∨ (78 ≤ c ∧ c ≤ 81) ∨ c = 89 ∨ (102 ≤ c ∧ c ≤ 107) ∨ c = 117 ∨ c = 144 → B'.1 c k = B.1 c k) (f2 : ∀ k, B'.2 82 k = B.2 82 k) (h7 : B'.1 73 7 = 0) (hd : GdT wb B') (h85 : B'.1 73 85 = nI hr2) : MB T wb rf cd hr2 st B' := by
  obtain ⟨b1, b2, b3, b4, b5, b6, b7, b8⟩ := hB
  exact ⟨⟨(f 73 13 (by omega)).trans b1.1, fun c k q => (f c k (by omega)).trans (b1.2.1 c k q), fun k => (f2 k).trans (b1.2.2 k)⟩, h7, hd, h85, (f 73 70 (by omega)).trans b5, b6, (f 73 110 (by omega)).trans b7, fun q => (f 144 _ (by omega)).trans (b8 q)⟩
theorem MN_s (h : MN T 0 0 hr C) (f : FCs j0 C C') (h115 : C'.1 73 115 = nI hr2) (h110 : C'.1 73 110 = nI 0) : MN T 0 0 hr2 C' := ⟨MD_s h.1 f, h115, h110, fun q => absurd q (by omega)⟩
theorem vt_32 (hw1 : 1 ≤ w) (hw : w ≤ 32) (h : VSx w nv vw vb vq vt B) (ht : t < nv) : vt t ≤ 32 := by
  obtain ⟨-, -, -, y6, -⟩ := h
  have := (y6 t ht).2.2.2.2.2
  omega
/-- as t_NV; the NAMEs that are no vars were visible before -/
theorem t_NV2 (hi : ∀ t, inb t = 0 ∨ inb t = 1) (h : NV inb wb w act Av S 0 0 B C) (hs : ∀ e a, Av' e a → ¬ S.1 11 e = 1 → Av e a) (hk : VLk w nv vb vq vt Av' S) (ht : NVt inb wb act nv vb vq vt B' C') (h256 : ∀ t, t < nv → vb t + vq t ≤ 256) (ex : Exk B B') (f117 : ∀ k, B'.1 117 k = B.1 117 k) (f141 : ∀ e a, Av e a → S.1 11 e = 2 → B'.2 141 a = B.2 141 a) (fin : act → ∀ a, inW C' a = inW C a) (c141 : act → ∀ e a, Av e a → S.1 11 e = 2 → C'.2 141 a = C.2 141 a) : NV inb wb w act Av' S 0 0 B' C' := fun e a r z h1 h2 h3 h4 h5 => by
  by_cases q : S.1 11 e = 1
  · obtain ⟨t, t1, t2, t3, t4⟩ := hk e a r z h1 q h2 h4 h3 h5
    refine ⟨fun y => absurd (q.symm.trans y) (by decide), fun _ => ⟨by rw [← t2, ← t3]; exact h256 t t1, fun y hy => ?_⟩, fun y => absurd (q.symm.trans y) (by decide), fun y => absurd (q.symm.trans y) (by decide)⟩
    obtain ⟨v, v1, v2, v3⟩ := ht t (a + y) t1 (by omega) (by omega)
    exact ⟨v, by rw [← t4]; exact v1, v2, fun x hx => v3 x (by rw [t4]; exact hx)⟩
  · have h0 := hs e a h1 q
    obtain ⟨k0, k1, k2, k3⟩ := h e a r z h0 h2 h3 h4 h5
    refine ⟨fun y => ⟨(k0 y).1, fun b hb => ?_⟩, fun y => absurd y q, fun y => ?_, fun y => absurd (k3 y).1 (by omega)⟩
    · obtain ⟨v, v1, v2, v3⟩ := (k0 y).2 b hb
      exact ⟨v, v1, fun t => by rw [fin t]; exact v2 t, fun x hx => by rw [f117]; exact Vk_x hi ex (v3 x hx)⟩
    · obtain ⟨v, v1, v2, v3⟩ := k2 y
      exact ⟨v, v1, by rw [f141 e a h0 y]; exact v2, fun t => by rw [c141 t e a h0 y]; exact v3 t⟩
theorem os_set (hg : ip_gk (lg_tbl, vwCl, Gr)) (hg2 : ip_gk (lg_tbl, vwCl, Gr2)) (hw1 : 1 ≤ w) (hw : w ≤ 32) (hi : ∀ t, inb t = 0 ∨ inb t = 1) (cx : CTX S T N M) (x1 : MXS inb wb w act Av S T 0 0 0 1 st B C) (o1 : WVs inb wb w act [r] cs 0 B C) (y : MYe w Av S vw nv vb vq vt u (sd + 1) B) (hl : VLc w nv vb vq vt Av S) (ra : RFA D Av S T e j1 1 r 0 a) (t1 : T.1 78 j1 = 32) (t2 : T.1 78 (j1 + 1) = 21) (hsd : sd < 80) (hj : j1 + 1 < M) : OZ l l2 Gr Gr2 n w d d2 act j0 u nv (MYS inb wb w act Av S T vw nv vb vq vt u sd) j1 (j1 + 2) st B C := by
  obtain ⟨hB, hC, hh, hN⟩ := x1
  obtain ⟨q1, q2, q3, q4, q5, q6, q7, q8, q9, q10, q11, q12, q13, q14⟩ := ra
  obtain ⟨v, v1, v2, v3⟩ := o1 0 (Nat.succ_pos _)
  have v1 : v < 2 ^ bw w r := v1
  have v2 : act → C.2 147 0 = lN v := v2
  have v3 : ∀ x, x < bw w r → V2 inb wb (cs 0) B (B.1 122 (32 * 0 + x)) (v.testBit x) := v3
  have hM := cx.2.2.2
  have y' := y
  obtain ⟨y1, y2, ⟨y3, y4, y5, y6, y7⟩, y8⟩ := y'
  obtain ⟨t0, b1, b2, b3, b4⟩ := y8 e a r 0 q6 q7 q3 q8 (by omega) q9
  have b5 := (y6 t0 b1).2.2.2.2.1
  have ha : a < 256 := by omega
  have bl := bw_le (w := w) (r := r) hw1
  obtain ⟨B2, ⟨M2, F2, h85, h132⟩, g⟩ := ms_1 (l := l) (n := n) (w := w) (d := d) (z := 32) hg cx hB.1 hB.2.1 (by omega) t1 (by omega) (by omega) (ms_32 (d := d + 5) (a := a) (r := r) (m := bw w r) (q := 0) (X := fun x => B.1 122 (32 * 0 + x)) hg hw (by omega) q3 rfl (by omega) ha ((hB.1.2.1 78 j1 (by omega)).trans t1) ((hB.1.2.1 105 j1 (by omega)).trans q14) ((hB.1.2.1 103 j1 (by omega)).trans q12) hB.2.2.2.1 (fun x _ => rfl))
  have ex : Exk B B2 := Or.inr (Gw_E (Gd_n hB.2.2.1) M2)
  have fc : FCs j0 C (zj (zi C 73 115 (nI 0)) 148 a (C.2 147 0)) := ⟨fun c k q1 q2 => by
    show (zi C 73 115 (nI 0)).1 c k = _
    rw [zi_get, if_neg (by omega)], fun c k q1 q2 => by
    rw [zj_get, if_neg (by omega)]
    rfl⟩
  have f : ∀ c k, ¬ (c = 73 ∧ (k = 7 ∨ k = 8 ∨ k = 66 ∨ k = 67 ∨ k = 68 ∨ k = 85)) → ¬ (111 ≤ c ∧ c ≤ 114) → ¬ c = 132 → B2.1 c k = B.1 c k := fun c k q1 q2 q3 => F2.1 c k (by omega) q2 (by omega)
  have tn : NVt inb wb act nv vb vq vt B2 (zj (zi C 73 115 (nI 0)) 148 a (C.2 147 0)) := fun t W ht h1 h2 => by
    have v32 := vt_32 hw1 hw y.2.2.1 ht
    by_cases z : W = a
    · have et : t = t0 := vs_un y7 ht b1 h1 h2 (by omega) (by omega)
      subst et
      refine ⟨v, by rw [b4]; exact v1, fun q => ?_, fun x hx => ?_⟩
      · rw [zj_get, if_pos ⟨rfl, z⟩]
        exact v2 q
      · rw [b4] at hx
        rw [z, h132 x hx]
        exact Vk_x hi ex (v3 x hx).1
    · obtain ⟨v', w1, w2, w3⟩ := NV_t hN hl t W ht h1 h2
      refine ⟨v', w1, fun q => ?_, fun x hx => ?_⟩
      · rw [zj_get, if_neg (by omega)]
        exact w2 q
      · rw [F2.1 132 _ (by omega) (by omega) (by omega)]
        exact Vk_x hi ex (w3 x hx)
  refine OZ_seq (Z1 := MYS inb wb w act Av S T vw nv vb vq vt u (sd + 1)) (Or.inl ⟨B2, _, st, Nat.le_refl _, g, fun q => ⟨nst_1 (z := 32) hg2 cx (hC q) (by omega) t1 (by omega) (by omega) (mt_set (by omega) (by omega) (hC q).2.1 (((hC q).1.2.1 78 j1 (by omega)).trans t1) (((hC q).1.2.1 103 j1 (by omega)).trans q12) ha), fc⟩, ⟨fun c k q => f c k (by omega) (by omega) (by omega), fun c k _ => F2.2 c k⟩, ex, ⟨⟨MB_f hB (fun c k q => f c k (by omega) (by omega) (by omega)) (fun k => F2.2 82 k) ((M2.1 7 (by omega)).trans hB.2.1) (Gd_E M2 hB.2.2.1) h85, fun q => MN_s (hC q) fc ?_ ?_, Nat.le_refl _, t_NV hi hN y8 tn (fun t ht => by have := (y6 t ht).2.2.2.2.1; omega) ex (fun k => f 117 k (by omega) (by omega) (by omega)) (fun e a _ _ => F2.2 141 a) (fun q a => inW_s fc a) (fun q e a' _ _ => ?_)⟩, MYe_k y (fun c k q => f c k (by omega) (by omega) (by omega))⟩⟩) (fun B1 C1 st1 _ z1 => oz_end hg hg2 hw1 hw hi cx z1 t2 hsd hj)
  · show (zi C 73 115 (nI 0)).1 73 115 = _
    exact zi_v
  · show (zi C 73 115 (nI 0)).1 73 110 = _
    rw [zi_k (by decide)]
    exact (hC q).2.2.1
  · rw [zj_get, if_neg (by omega)]
    rfl
/-- var, behind its EXPR -/
theorem os_var (hg : ip_gk (lg_tbl, vwCl, Gr)) (hg2 : ip_gk (lg_tbl, vwCl, Gr2)) (hw1 : 1 ≤ w) (hw : w ≤ 32) (hi : ∀ t, inb t = 0 ∨ inb t = 1) (cx : CTX S T N M) {v h : Nat} (x1 : MXS inb wb w act Av S T 0 0 0 h st B C) (hp : (p = 1 ∧ h = 1 ∧ V = fun x => B.1 122 (32 * 0 + x)) ∨ (p = 0 ∧ h = 0 ∧ V = fun _ => -2)) (v1 : v < 2 ^ bw w r) (v2 : act → p = 1 → C.2 147 0 = lN v) (v0 : p = 0 → v = 0) (v3 : ∀ x, x < bw w r → Vk inb wb B (V x) (v.testBit x)) (y : MYe w Av S vw nv vb vq vt u (sd + 1) B) (hl : VLc w nv vb vq vt Av S) (s11 : S.1 11 e = 1) (s12 : S.1 12 e = nI r) (s13 : S.1 13 e = nI z) (hr : r ≤ 1) (hz : z ≤ 64) (hvw : vw + max 1 z ≤ 256) (t78 : T.1 78 j1 = 25) (t80 : T.1 80 j1 = nI r) (t89 : T.1 89 j1 = nI vw) (t82 : T.2 82 j1 = lN (65536 * p + 256 * z)) (t21 : T.1 78 (j1 + 1) = 21) (hsd : sd < 80) (hj : j1 + 1 < M) : OZ l l2 Gr Gr2 n w d d2 act j0 u nv (MYS inb wb w act (adA Av e vw) S T (vw + max 1 z) (nv + 1) (xt vb nv vw) (xt vq nv (max 1 z)) (xt vt nv (bw w r)) u sd) j1 (j1 + 2) st B C := by
  obtain ⟨hB, hC, hh, hN⟩ := x1
  have hM := cx.2.2.2
  have y' := y
  obtain ⟨y1, y2, ⟨y3, y4, y5, y6, y7⟩, y8⟩ := y'
  have bl := bw_le (w := w) (r := r) hw1
  have bwv : bw w r = 1 ∨ bw w r = w := by unfold bw; split <;> omega
  obtain ⟨B2, ⟨vm, h85⟩, g⟩ := ms_1 (l := l) (n := n) (w := w) (d := d) (z := 25) hg cx hB.1 hB.2.1 (by omega) t78 (by omega) (by omega) (ms_25 (d := d + 5) hg (by omega) ((hB.1.2.1 78 j1 (by omega)).trans t78) (wm_var (d := d + 5) (h := 0) (V := V) (a := vw) (t := nv) (z := z) (r := r) (m := bw w r) hg hw hw1 (by omega) hr rfl hz (by omega) hvw ((hB.1.2.1 80 j1 (by omega)).trans t80) ((hB.1.2.1 89 j1 (by omega)).trans t89) y3 (by
    rcases hp with ⟨e1, e2, e3⟩ | ⟨e1, e2, e3⟩
    · subst e1 e2
      exact Or.inl ⟨(hB.1.2.2 j1).trans (by rw [t82]), hB.2.2.2.1, by omega, e3⟩
    · subst e1 e2
      exact Or.inr ⟨(hB.1.2.2 j1).trans (by rw [t82, Nat.mul_zero, Nat.zero_add]), hB.2.2.2.1, e3⟩)))
  obtain ⟨F1, L1, b97, b133, b134, b135, b132⟩ := vm
  have f : ∀ c k, ¬ (c = 73 ∧ (k = 85 ∨ k = 97)) → ¬ c = 125 → ¬ ((133 ≤ c ∧ c ≤ 135) ∧ k = nv) → ¬ c = 132 → B2.1 c k = B.1 c k := fun c k q1 q2 q3 q4 => F1 c k q1 (by omega) q3 (by omega)
  have me : MEl B B2 := MEl_f (fun c k q => f c k (by omega) (by omega) (by omega) (by omega))
  have ex := Ex_l me hB.2.2.1
  have ns : act → NGo l2 Gr2 n w d2 C j1 (if p = 1 then vrW (zi C 73 115 (nI 0)) vw (C.2 147 0) (max 1 z) else vrW C vw 0 (max 1 z)) (j1 + 1) := fun q => by
    have hC := hC q
    refine nst_1 (z := 25) hg2 cx hC (by omega) t78 (by omega) (by omega) (mt_var (k := 0) (p := p) (z := z) (h := 0) (a := vw) (by omega) ((hC.1.2.1 78 j1 (by omega)).trans t78) hz (by omega) (by omega) ((hC.1.2.2 j1).trans (by rw [t82, Nat.zero_add, Nat.add_comm])) (fun ep => ⟨by omega, ?_⟩) ((hC.1.2.1 89 j1 (by omega)).trans t89) hvw)
    rcases hp with ⟨-, e2, -⟩ | ⟨e1, -⟩
    · rw [hC.2.1, e2]
    · omega
  obtain ⟨C2, eC2⟩ : ∃ C2, C2 = (if p = 1 then vrW (zi C 73 115 (nI 0)) vw (C.2 147 0) (max 1 z) else vrW C vw 0 (max 1 z)) := ⟨_, rfl⟩
  rw [← eC2] at ns
  have c1 : ∀ c k, ¬ (c = 73 ∧ k = 115) → C2.1 c k = C.1 c k := fun c k q => by
    rw [eC2]
    split
    · rw [vrW_1, zi_get, if_neg q]
    · rw [vrW_1]
  have c115 : act → C2.1 73 115 = nI 0 := fun q => by
    rw [eC2]
    rcases hp with ⟨e1, e2, -⟩ | ⟨e1, e2, -⟩
    · rw [if_pos e1, vrW_1]
      exact zi_v
    · rw [if_neg (by omega), vrW_1, (hC q).2.1, e2]
  have c2 : ∀ c k, ¬ (c = 148 ∧ vw ≤ k ∧ k < vw + max 1 z) → C2.2 c k = C.2 c k := fun c k q => by
    rw [eC2]
    split
    · rw [vrW_2, if_neg q]
      rfl
    · rw [vrW_2, if_neg q]
  have cv : act → ∀ k, vw ≤ k → k < vw + max 1 z → C2.2 148 k = lN v := fun q k k1 k2 => by
    rw [eC2]
    rcases hp with ⟨e1, e2, -⟩ | ⟨e1, e2, -⟩
    · rw [if_pos e1, vrW_2, if_pos ⟨rfl, k1, k2⟩]
      exact v2 q e1
    · rw [if_neg (by omega), vrW_2, if_pos ⟨rfl, k1, k2⟩, v0 e1]
      rfl
  have fc : FCs j0 C C2 := ⟨fun c k q1 q2 => c1 c k (by omega), fun c k q1 q2 => c2 c k (by omega)⟩
  have y6' : ∀ t, t < nv + 1 → B2.1 133 t = nI (xt vb nv vw t) ∧ B2.1 134 t = nI (xt vq nv (max 1 z) t) ∧ B2.1 135 t = nI (xt vt nv (bw w r) t) ∧ 1 ≤ xt vq nv (max 1 z) t ∧ xt vb nv vw t + xt vq nv (max 1 z) t ≤ vw + max 1 z ∧ (xt vt nv (bw w r) t = 1 ∨ xt vt nv (bw w r) t = w) := fun t ht => by
    by_cases q : t = nv
    · subst q
      rw [xt_v, xt_v, xt_v]
      exact ⟨b133, b134, b135, by omega, by omega, bwv⟩
    · rw [xt_n (by omega), xt_n (by omega), xt_n (by omega), f 133 t (by omega) (by omega) (by omega) (by omega), f 134 t (by omega) (by omega) (by omega) (by omega), f 135 t (by omega) (by omega) (by omega) (by omega)]
      obtain ⟨w1, w2, w3, w4, w5, w6⟩ := y6 t (by omega)
      exact ⟨w1, w2, w3, w4, by omega, w6⟩
  have y7' : ∀ t, t + 1 < nv + 1 → xt vb nv vw t + xt vq nv (max 1 z) t ≤ xt vb nv vw (t + 1) := fun t ht => by
    by_cases q : t + 1 = nv
    · rw [xt_n (by omega), xt_n (by omega), q, xt_v]
      exact (y6 t (by omega)).2.2.2.2.1
    · rw [xt_n (by omega), xt_n (by omega), xt_n (by omega)]
      exact y7 t (by omega)
  have y8' : VLk w (nv + 1) (xt vb nv vw) (xt vq nv (max 1 z)) (xt vt nv (bw w r)) (adA Av e vw) S := fun e' a' r' z' h1 h2 h3 h4 h5 h6 => by
    rcases h1 with h1 | ⟨h1, h1'⟩
    · obtain ⟨t, a1, a2, a3, a4⟩ := y8 e' a' r' z' h1 h2 h3 h4 h5 h6
      exact ⟨t, by omega, by rw [xt_n a1]; exact a2, by rw [xt_n a1]; exact a3, by rw [xt_n a1]; exact a4⟩
    · rw [h1] at h4 h6
      have er : r' = r := (nI_eq (by omega) (by omega)).mp (h4.symm.trans s12)
      have ez : z' = z := (nI_eq (by omega) (by omega)).mp (h6.symm.trans s13)
      exact ⟨nv, by omega, by rw [xt_v, h1'], by rw [xt_v, ez], by rw [xt_v, er]⟩
  have tn : NVt inb wb act (nv + 1) (xt vb nv vw) (xt vq nv (max 1 z)) (xt vt nv (bw w r)) B2 C2 := fun t W ht h1 h2 => by
    by_cases q : t = nv
    · subst q
      rw [xt_v] at h1 h2 ⊢
      rw [xt_v] at h2
      refine ⟨v, v1, fun q => cv q W h1 h2, fun x hx => ?_⟩
      have := b132 (W - vw) x (by omega) hx
      rw [show vw + (W - vw) = W by omega] at this
      rw [this]
      exact Vk_x hi ex (v3 x hx)
    · rw [xt_n (by omega)] at h1 h2 ⊢
      rw [xt_n (by omega)] at h2
      have hb := (y6 t (by omega)).2.2.2.2.1
      have v32 := vt_32 hw1 hw y.2.2.1 (show t < nv by omega)
      obtain ⟨v', w1, w2, w3⟩ := NV_t hN hl t W (by omega) h1 h2
      refine ⟨v', w1, fun q => by rw [c2 148 W (by omega)]; exact w2 q, fun x hx => ?_⟩
      rw [F1 132 _ (by omega) (by omega) (by omega) (by omega)]
      exact Vk_x hi ex (w3 x hx)
  refine OZ_seq (Z1 := MYS inb wb w act (adA Av e vw) S T (vw + max 1 z) (nv + 1) (xt vb nv vw) (xt vq nv (max 1 z)) (xt vt nv (bw w r)) u (sd + 1)) (Or.inl ⟨B2, C2, st, Nat.le_refl _, g, fun q => ⟨ns q, fc⟩, ⟨fun c k q => f c k (by omega) (by omega) (by omega) (by omega), fun c k _ => L1 c k⟩, ex, ⟨⟨MB_f hB (fun c k q => f c k (by omega) (by omega) (by omega) (by omega)) (fun k => L1 82 k) ((me.1 7 (by omega)).trans hB.2.1) (Gd_l me ⟨sd + 1, by omega, (f 73 94 (by omega) (by omega) (by omega) (by omega)).trans y1⟩ hB.2.2.1) h85, fun q => MN_s (hC q) fc (c115 q) ((c1 73 110 (by omega)).trans (hC q).2.2.1), Nat.le_refl _, t_NV2 hi hN (fun e' a' q1 q2 => ?_) y8' tn (fun t ht => by have := (y6' t ht).2.2.2.2.1; omega) ex (fun k => f 117 k (by omega) (by omega) (by omega) (by omega)) (fun e a _ _ => L1 141 a) (fun q a => inW_s fc a) (fun q e a' _ _ => c2 141 a' (by omega))⟩, (f 73 94 (by omega) (by omega) (by omega) (by omega)).trans y1, (f 73 101 (by omega) (by omega) (by omega) (by omega)).trans y2, ⟨b97, by omega, hvw, y6', y7'⟩, y8'⟩⟩) (fun B1 C1 st1 _ z1 => oz_end hg hg2 hw1 hw hi cx z1 t21 hsd hj)
  rcases q1 with q1 | ⟨rfl, -⟩
  · exact q1
  · exact absurd s11 q2
/-- a[i] = EXPR, behind both EXPRs -/
theorem os_sta (hg : ip_gk (lg_tbl, vwCl, Gr)) (hg2 : ip_gk (lg_tbl, vwCl, Gr2)) (hw1 : 1 ≤ w) (hw : w ≤ 32) (hi : ∀ t, inb t = 0 ∨ inb t = 1) (cx : CTX S T N M) (x1 : MXS inb wb w act Av S T 0 0 0 2 st B C) (o1 : WVs inb wb w act [0, r] cs 0 B C) (y : MYe w Av S vw nv vb vq vt u (sd + 1) B) (hl : VLc w nv vb vq vt Av S) (ra : RFA D Av S T e j1 1 r z a) (hz : 0 < z) (hpb : pb ≤ 1) (hcs : pb = 1 → cs 0) (hin : pb = 1 → ∀ NX, (∀ x, x < w → V2 inb wb (cs 0) B (B.1 122 (32 * 0 + x)) (NX.testBit x)) → NX < 2 ^ w → NX < z) (t1 : T.1 78 j1 = 34) (t7 : T.1 107 j1 = nI pb) (t2 : T.1 78 (j1 + 1) = 21) (hsd : sd < 80) (hj : j1 + 1 < M) : OZ l l2 Gr Gr2 n w d d2 act j0 u nv (MYS inb wb w act Av S T vw nv vb vq vt u sd) j1 (j1 + 2) st B C := by
  obtain ⟨hB, hC, hh, hN⟩ := x1
  obtain ⟨q1, q2, q3, q4, q5, q6, q7, q8, q9, q10, q11, q12, q13, q14⟩ := ra
  obtain ⟨NX, x1', x2, x3⟩ := o1 0 (Nat.succ_pos _)
  obtain ⟨NY, v1, v2, v3⟩ := o1 1 (Nat.succ_lt_succ (Nat.succ_pos _))
  have x1' : NX < 2 ^ w := x1'
  have x2 : act → C.2 147 0 = lN NX := x2
  have x3 : ∀ x, x < w → V2 inb wb (cs 0) B (B.1 122 (32 * 0 + x)) (NX.testBit x) := x3
  have v1 : NY < 2 ^ bw w r := v1
  have v2 : act → C.2 147 1 = lN NY := v2
  have v3 : ∀ x, x < bw w r → V2 inb wb (cs 1) B (B.1 122 (32 * 1 + x)) (NY.testBit x) := v3
  have hM := cx.2.2.2
  have h32 : 2 ^ w ≤ 2 ^ 32 := Nat.pow_le_pow_right (by omega) hw
  have y' := y
  obtain ⟨y1, y2, ⟨y3, y4, y5, y6, y7⟩, y8⟩ := y'
  obtain ⟨t0, b1, b2, b3, b4⟩ := y8 e a r z q6 q7 q3 q8 q4 q9
  have b5 := (y6 t0 b1).2.2.2.2.1
  have em : max 1 z = z := by omega
  rw [em] at b3
  have ha : a + z ≤ 256 := by omega
  have bl := bw_le (w := w) (r := r) hw1
  have nt := NV_t hN hl
  -- the words before
  obtain ⟨vf, hv⟩ := Classical.axiomOfChoice (r := fun k v => k < z → v < 2 ^ bw w r ∧ (act → C.2 148 (a + k) = lN v) ∧ ∀ x, x < bw w r → Vk inb wb B (B.1 132 (32 * (a + k) + x)) (v.testBit x)) (fun k => by
    by_cases hk : k < z
    · obtain ⟨v, hv⟩ := nt t0 (a + k) b1 (by omega) (by omega)
      rw [b4] at hv
      exact ⟨v, fun _ => hv⟩
    · exact ⟨0, fun q => absurd q hk⟩)
  have pbm : nI pb = 0 ↔ pb = 0 := nI_eq (b := 0) (by omega) (by omega)
  -- build's run
  have fz : ∀ c : Prop, V2 inb wb c B (-2) false := fun c => (SV_2 (c := c) (wb := wb) hi).2.2.2.2.2 B
  have vL : ∀ k x, k < z → x < bw w r → VC B (B.1 132 (32 * (a + k) + x)) := fun k x hk hx => ((hv k hk).2.2 x hx hB.2.1 hB.2.2.1.2.1 hB.2.2.1.2.2.1).1
  have run : ∃ B2, MGo l Gr n w d B j1 B2 (j1 + 1) ∧ (¬ B2.1 73 7 = 0 ∨ (B2.1 73 7 = 0 ∧ GdT wb B2 ∧ Exk B B2 ∧ FM (fun c i => (c = 73 ∧ i = 85) ∨ c = 146 ∨ P32 a z c i) B B2 ∧ B2.1 73 85 = nI 0 ∧ ∀ k x, k < z → x < bw w r → Vk inb wb B2 (B2.1 132 (32 * (a + k) + x)) ((if NX = k then NY else vf k).testBit x))) := by
    by_cases h0p : pb = 0
    · obtain ⟨B2, ⟨M2, F2, h85, hO, -⟩, g⟩ := ms_1 (l := l) (n := n) (w := w) (d := d) (z := 34) hg cx hB.1 hB.2.1 (by omega) t1 (by omega) (by omega) (ms_34N (d := d + 5) (a := a) (z := z) (r := r) (m := bw w r) (q := 0) (X := opf w (B.1 122) (32 * 0)) (V := opf (bw w r) (B.1 122) (32 * 1)) (L := Lf z (bw w r) (fun k x => B.1 132 (32 * (a + k) + x))) hg hw hw1 (by omega) q3 rfl (by omega) q4 ha ((hB.1.2.1 78 j1 (by omega)).trans t1) ((hB.1.2.1 103 j1 (by omega)).trans q12) ((hB.1.2.1 104 j1 (by omega)).trans q13) ((hB.1.2.1 105 j1 (by omega)).trans q14) (by rw [hB.1.2.1 107 j1 (by omega), t7]; exact pbm.mpr h0p) hB.2.2.2.1 (fun x hx => (opf_at hx).symm) (fun x hx => (opf_at hx).symm) (fun k x hk hx => (Lf_at (f := fun k x => B.1 132 (32 * (a + k) + x)) hk hx).symm) hB.2.2.1.1 (opf_vc hB.2.2.1 hB.2.1 x3) (opf_vc hB.2.2.1 hB.2.1 v3) (fun k x => Lf_VC vL k x))
      refine ⟨B2, g, ?_⟩
      by_cases z7 : B2.1 73 7 = 0
      · right
        have z7' := z7
        rw [M2.1 7 (by omega)] at z7'
        obtain ⟨r1, r2, r3⟩ := mk_run2 (c := False) hi (v_sto (NX := NX) (m := bw w r) (yb := fun x => NY.testBit x) (lb := fun k x => if k < z ∧ x < bw w r then (vf k).testBit x else false) (SV_2 (c := False) (wb := wb) hi) hw1 x1' z 0 (Lf z (bw w r) (fun k x => B.1 132 (32 * (a + k) + x))) (fun k x => if k < z ∧ x < bw w r then (vf k).testBit x else false) B (fun x hx => V2_mo (opf_V2 hi x3 x hx) (fun q => q.elim)) (fun x hx => V2_mo (opf_V2 hi v3 x hx) (fun q => q.elim)) (fun k x _ hk hx => by
          rw [Lf_at (by omega) hx]
          show V2 inb wb False B _ (if k < z ∧ x < bw w r then (vf k).testBit x else false)
          rw [if_pos ⟨by omega, hx⟩]
          exact ⟨(hv k (by omega)).2.2 x hx, fun q => q.elim⟩) (fun k x hx => by
          show V2 inb wb False B (Lf z (bw w r) (fun k x => B.1 132 (32 * (a + k) + x)) k x) (if k < z ∧ x < bw w r then (vf k).testBit x else false)
          unfold Lf
          by_cases q : k < z ∧ x < bw w r
          · rw [if_pos q, if_pos q]
            exact ⟨(hv k q.1).2.2 x q.2, fun q => q.elim⟩
          · rw [if_neg q, if_neg q]
            exact fz _)) hB.2.1 hB.2.2.1 z7'
        refine ⟨z7, Gd_E M2 r1, Ex_E (Gd_n hB.2.2.1) r2 M2, F2, h85, fun k x hk hx => ?_⟩
        have this := (r3 k x hx).1
        rw [if_pos (show 0 ≤ k ∧ k < 0 + z from ⟨Nat.zero_le _, by omega⟩)] at this
        rw [hO k x hk hx]
        refine Vk_x hi (Or.inr (Gw_E (Gd_n r1) M2)) ?_
        have ev : (if NX = k then NY else vf k).testBit x = if NX = k then NY.testBit x else (if k < z ∧ x < bw w r then (vf k).testBit x else false) := by
          by_cases q : NX = k
          · rw [if_pos q, if_pos q]
          · rw [if_neg q, if_neg q, if_pos ⟨hk, hx⟩]
        rw [ev]
        exact this
      · exact Or.inl z7
    · have en : nvb (xbo (opf w (B.1 122) (32 * 0))) w 0 = NX := nvb_cn (fun x hx => by rw [opf_at hx]; exact (x3 x hx).2 (hcs (by omega))) x1'
      obtain ⟨B2, ⟨M2, F2, h85, hO, -⟩, g⟩ := ms_1 (l := l) (n := n) (w := w) (d := d) (z := 34) hg cx hB.1 hB.2.1 (by omega) t1 (by omega) (by omega) (ms_34P (d := d + 5) (a := a) (z := z) (r := r) (m := bw w r) (q := 0) (X := opf w (B.1 122) (32 * 0)) (V := opf (bw w r) (B.1 122) (32 * 1)) (L := Lf z (bw w r) (fun k x => B.1 132 (32 * (a + k) + x))) hg hw hw1 (by omega) q3 rfl (by omega) q4 ha ((hB.1.2.1 78 j1 (by omega)).trans t1) ((hB.1.2.1 103 j1 (by omega)).trans q12) ((hB.1.2.1 105 j1 (by omega)).trans q14) (by rw [hB.1.2.1 107 j1 (by omega), t7]; exact fun y => h0p (pbm.mp y)) hB.2.2.2.1 (fun x hx => (opf_at hx).symm) (fun x hx => (opf_at hx).symm) (fun k x hk hx => (Lf_at (f := fun k x => B.1 132 (32 * (a + k) + x)) hk hx).symm) (by rw [en]; exact hin (by omega) NX x3 x1'))
      rw [en] at hO
      have ex : Exk B B2 := Or.inr (Gw_E (Gd_n hB.2.2.1) M2)
      refine ⟨B2, g, Or.inr ⟨(M2.1 7 (by omega)).trans hB.2.1, Gd_E M2 hB.2.2.1, ex, F2, h85, fun k x hk hx => ?_⟩⟩
      rw [hO k x hk hx]
      show Vk inb wb B2 (if k = NX then opf (bw w r) (B.1 122) (32 * 1) x else Lf z (bw w r) (fun k x => B.1 132 (32 * (a + k) + x)) k x) _
      by_cases q : k = NX
      · rw [if_pos q, if_pos q.symm]
        exact Vk_x hi ex (opf_V2 hi v3 x hx).1
      · rw [if_neg q, if_neg (fun y => q y.symm), Lf_at hk hx]
        exact Vk_x hi ex ((hv k hk).2.2 x hx)
  obtain ⟨B2, g, z7 | ⟨z7, gd, ex, F2, h85, hval⟩⟩ := run
  · exact Or.inr ⟨B2, _, g, z7⟩
  have f : ∀ c k, ¬ (c = 73 ∧ (k = 7 ∨ k = 8 ∨ k = 66 ∨ k = 67 ∨ k = 68 ∨ k = 85)) → ¬ (111 ≤ c ∧ c ≤ 114) → ¬ (123 ≤ c ∧ c ≤ 132) → ¬ c = 146 → B2.1 c k = B.1 c k := fun c k q1 q2 q3 q4 => F2.1 c k (by omega) q2 (by unfold P32; omega)
  obtain ⟨C2, eC2⟩ : ∃ C2, C2 = (if NX < z then zj (zi C 73 115 (nI 0)) 148 (a + NX) (C.2 147 (0 + 1)) else zi C 73 115 (nI 0)) := ⟨_, rfl⟩
  have c1 : ∀ c k, C2.1 c k = (zi C 73 115 (nI 0)).1 c k := fun c k => by
    rw [eC2]
    split <;> rfl
  have c2 : ∀ c k, C2.2 c k = if c = 148 ∧ k = a + NX ∧ NX < z then C.2 147 1 else C.2 c k := fun c k => by
    rw [eC2]
    by_cases q : NX < z
    · rw [if_pos q, zj_get]
      by_cases q' : c = 148 ∧ k = a + NX
      · rw [if_pos q', if_pos ⟨q'.1, q'.2, q⟩]
      · rw [if_neg q', if_neg (fun y => q' ⟨y.1, y.2.1⟩)]
        rfl
    · rw [if_neg q, if_neg (fun y => q y.2.2)]
      rfl
  have fc : FCs j0 C C2 := ⟨fun c k q1 q2 => by rw [c1, zi_get, if_neg (by omega)], fun c k q1 q2 => by rw [c2, if_neg (by omega)]⟩
  have ns : act → NGo l2 Gr2 n w d2 C j1 C2 (j1 + 1) := fun q => by
    have hC := hC q
    rw [eC2]
    exact nst_1 (z := 34) hg2 cx hC (by omega) t1 (by omega) (by omega) (mt_seta (by omega) (by omega) hC.2.1 ((hC.1.2.1 78 j1 (by omega)).trans t1) (x2 q) (by omega) ((hC.1.2.1 104 j1 (by omega)).trans q13) (by omega) ((hC.1.2.1 103 j1 (by omega)).trans q12) ha)
  have tn : NVt inb wb act nv vb vq vt B2 C2 := fun t W ht h1 h2 => by
    have v32 := vt_32 hw1 hw y.2.2.1 ht
    by_cases q : a ≤ W ∧ W < a + z
    · have et : t = t0 := vs_un y7 ht b1 h1 h2 (by omega) (by omega)
      subst et
      obtain ⟨k, rfl⟩ : ∃ k, W = a + k := ⟨W - a, by omega⟩
      have hk : k < z := by omega
      refine ⟨if NX = k then NY else vf k, ?_, fun q => ?_, fun x hx => hval k x hk (by rw [← b4]; exact hx)⟩
      · rw [b4]
        split
        · exact v1
        · exact (hv k hk).1
      · rw [c2]
        by_cases q' : NX = k
        · rw [if_pos ⟨rfl, by omega, by omega⟩, if_pos q']
          exact v2 q
        · rw [if_neg (by omega), if_neg q']
          exact (hv k hk).2.1 q
    · obtain ⟨v', w1, w2, w3⟩ := nt t W ht h1 h2
      refine ⟨v', w1, fun q' => ?_, fun x hx => ?_⟩
      · rw [c2, if_neg (by omega)]
        exact w2 q'
      · rw [F2.1 132 _ (by omega) (by omega) (by unfold P32; omega)]
        exact Vk_x hi ex (w3 x hx)
  refine OZ_seq (Z1 := MYS inb wb w act Av S T vw nv vb vq vt u (sd + 1)) (Or.inl ⟨B2, C2, st, Nat.le_refl _, g, fun q => ⟨ns q, fc⟩, ⟨fun c k q => f c k (by omega) (by omega) (by omega) (by omega), fun c k _ => F2.2 c k⟩, ex, ⟨⟨MB_f hB (fun c k q => f c k (by omega) (by omega) (by omega) (by omega)) (fun k => F2.2 82 k) z7 gd h85, fun q => MN_s (hC q) fc (by rw [c1]; exact zi_v) (by rw [c1, zi_k (by decide)]; exact (hC q).2.2.1), Nat.le_refl _, t_NV hi hN y8 tn (fun t ht => by have := (y6 t ht).2.2.2.2.1; omega) ex (fun k => f 117 k (by omega) (by omega) (by omega) (by omega)) (fun e a _ _ => F2.2 141 a) (fun q a => inW_s fc a) (fun q e a' _ _ => by rw [c2, if_neg (by omega)])⟩, MYe_k y (fun c k q => f c k (by omega) (by omega) (by omega) (by omega))⟩⟩) (fun B1 C1 st1 _ z1 => oz_end hg hg2 hw1 hw hi cx z1 t2 hsd hj)
end OSS
