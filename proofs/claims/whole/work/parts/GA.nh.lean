/-! mean() beside build: the PROGRAM -/
/-- what ITEMs keep of mean() -/
def FCp (C C' : zS) : Prop := (∀ c k, ¬ (c = 73 ∧ (k = 110 ∨ k = 115 ∨ k = 118)) → ¬ (c = 144 ∨ c = 145) → C'.1 c k = C.1 c k) ∧ ∀ c k, ¬ (c = 141 ∨ c = 142 ∨ c = 147 ∨ c = 148 ∨ c = 149) → C'.2 c k = C.2 c k
def OI (l l2 : Launch) (Gr Gr2 : zG) (n w d d2 : Nat) (act : Prop) (Z : Nat → zS → zS → Prop) (j j' st : Nat) (B C : zS) : Prop := (∃ B' C' st', MGo l Gr n w d B j B' j' ∧ (act → NGo l2 Gr2 n w d2 C j C' j' ∧ FCp C C') ∧ Z st' B' C') ∨ ∃ B' j'', MGo l Gr n w d B j B' j'' ∧ ¬ B'.1 73 7 = 0
/-- the outputs so far have the same values -/
def OUm (inb : Nat → Nat) (wb w : Nat) (act : Prop) (no : Nat) (B C : zS) : Prop := B.1 73 69 = nI no ∧ (act → C.1 73 118 = nI no) ∧ ∀ t, t < no → ∃ m v, (m = 1 ∨ m = w) ∧ B.1 120 t = nI m ∧ v < 2 ^ m ∧ (act → C.2 149 t = lN v) ∧ ∀ x, x < m → Vk inb wb B (B.1 121 (32 * t + x)) (v.testBit x)
def MPZ (inb : Nat → Nat) (wb w : Nat) (act : Prop) (vm : Nat → Nat) (iwF : Nat) (Av : Nat → Nat → Prop) (S T : zS) (vw nv : Nat) (vb vq vt : Nat → Nat) (no st : Nat) (B C : zS) : Prop := MYS inb wb w act Av S T vw nv vb vq vt 0 0 st B C ∧ OUm inb wb w act no B C ∧ (act → ∀ a, a < iwF → inW C a = lN (vm a))
/-- the inputs' bits -/
def INv (inb : Nat → Nat) (wb : Nat) (vm : Nat → Nat) (iwF : Nat) (S T : zS) : Prop := wb ≤ 8192 ∧ ∀ a, a < iwF → ∃ q bt, T.1 117 a = nI q ∧ S.1 19 a = nI bt ∧ q + bt ≤ wb ∧ bt ≤ 32 ∧ vm a < 2 ^ bt ∧ ∀ x, x < bt → inb (q + x) = ((vm a).testBit x).toNat
section MPR
variable {l l2 : Launch} {Gr Gr2 : zG} {n w d d2 : Nat} {inb : Nat → Nat} {wb D N M mf : Nat} {act : Prop} {S T B B' C C' C1 C2 : zS} {i0 i0' p0 p0' vw vw' : Nat} {Av Av' : Nat → Nat → Prop} {p i i' j j' j0 j1 j2 nv r st k u sd no iwF e a z : Nat} {vb vq vt vm : Nat → Nat} {Z Z1 Z2 : Nat → zS → zS → Prop} {cs : Nat → Prop} {s : Bool}
theorem FCp_rfl : FCp C C := ⟨fun _ _ _ _ => rfl, fun _ _ _ => rfl⟩
theorem FCp_tr (h1 : FCp C C1) (h2 : FCp C1 C2) : FCp C C2 := ⟨fun c k q1 q2 => (h2.1 c k q1 q2).trans (h1.1 c k q1 q2), fun c k q => (h2.2 c k q).trans (h1.2 c k q)⟩
theorem FCp_s (h : FCs j0 C C') : FCp C C' := ⟨fun c k q1 q2 => h.1 c k (by omega) q2, fun c k q => h.2 c k (by omega) (by omega)⟩
theorem OI_seq (h1 : OI l l2 Gr Gr2 n w d d2 act Z1 j j1 st B C) (h2 : ∀ B1 C1 st1, Z1 st1 B1 C1 → OI l l2 Gr Gr2 n w d d2 act Z2 j1 j2 st1 B1 C1) : OI l l2 Gr Gr2 n w d d2 act Z2 j j2 st B C := by
  rcases h1 with ⟨B1, C1, st1, m1, n1, z1⟩ | ⟨B1, j3, m1, z1⟩
  · rcases h2 B1 C1 st1 z1 with ⟨B2, C2, st2, m2, n2, z2⟩ | ⟨B2, j3, m2, z2⟩
    · exact Or.inl ⟨B2, C2, st2, MGo_tr m1 m2, fun t => ⟨NGo_tr (n1 t).1 (n2 t).1, FCp_tr (n1 t).2 (n2 t).2⟩, z2⟩
    · exact Or.inr ⟨B2, j3, MGo_tr m1 m2, z2⟩
  · exact Or.inr ⟨B1, j3, m1, z1⟩
theorem inW_i (f : FCp C C') (a : Nat) : inW C' a = inW C a := by
  unfold inW
  rw [f.1 73 124 (by omega) (by omega), f.2 118 a (by omega), f.2 119 a (by omega)]
theorem OUm_k (hi : ∀ t, inb t = 0 ∨ inb t = 1) (h : OUm inb wb w act no B C) (f : SFm j0 u nv B B') (fc : act → FCs j0 C C') (ex : Exk B B') : OUm inb wb w act no B' C' := by
  obtain ⟨h1, h2, h3⟩ := h
  refine ⟨(f.1 73 69 (by omega)).trans h1, fun t => ((fc t).1 73 118 (by omega) (by omega)).trans (h2 t), fun t ht => ?_⟩
  obtain ⟨m, v, q1, q2, q3, q4, q5⟩ := h3 t ht
  exact ⟨m, v, q1, (f.1 120 t (by omega)).trans q2, q3, fun y => ((fc y).2 149 t (by omega) (by omega)).trans (q4 y), fun x hx => by rw [f.1 121 _ (by omega)]; exact Vk_x hi ex (q5 x hx)⟩
theorem z_oi (hi : ∀ t, inb t = 0 ∨ inb t = 1) (h : OZ l l2 Gr Gr2 n w d d2 act j0 u nv Z j j' st B C) (ho : OUm inb wb w act no B C) (hv : act → ∀ a, a < iwF → inW C a = lN (vm a)) : OI l l2 Gr Gr2 n w d d2 act (fun st B C => Z st B C ∧ OUm inb wb w act no B C ∧ (act → ∀ a, a < iwF → inW C a = lN (vm a))) j j' st B C := by
  rcases h with ⟨B1, C1, st1, s1, m1, n1, f1, e1, z1⟩ | h
  · exact Or.inl ⟨B1, C1, st1, m1, fun t => ⟨(n1 t).1, FCp_s (n1 t).2⟩, z1, OUm_k hi ho f1 (fun t => (n1 t).2) e1, fun t a ha => by rw [inW_s (n1 t).2]; exact hv t a ha⟩
  · exact Or.inr h
/-- output, behind its EXPR -/
theorem os_out (hg : ip_gk (lg_tbl, vwCl, Gr)) (hg2 : ip_gk (lg_tbl, vwCl, Gr2)) (hw1 : 1 ≤ w) (hw : w ≤ 32) (hi : ∀ t, inb t = 0 ∨ inb t = 1) (cx : CTX S T N M) (x1 : MXS inb wb w act Av S T 0 0 0 1 st B C) (o1 : WVs inb wb w act [r] cs 0 B C) (y : MYe w Av S vw nv vb vq vt 0 1 B) (ho : OUm inb wb w act no B C) (hv : act → ∀ a, a < iwF → inW C a = lN (vm a)) (hr : r ≤ 1) (hno : no < 444) (t1 : T.1 78 j1 = 30) (t80 : T.1 80 j1 = nI r) (t2 : T.1 78 (j1 + 1) = 21) (hj : j1 + 1 < M) : OI l l2 Gr Gr2 n w d d2 act (MPZ inb wb w act vm iwF Av S T vw nv vb vq vt (no + 1)) j1 (j1 + 2) st B C := by
  obtain ⟨hB, hC, hh, hN⟩ := x1
  obtain ⟨v, v1, v2, v3⟩ := o1 0 (Nat.succ_pos _)
  have v1 : v < 2 ^ bw w r := v1
  have v2 : act → C.2 147 0 = lN v := v2
  have v3 : ∀ x, x < bw w r → V2 inb wb (cs 0) B (B.1 122 (32 * 0 + x)) (v.testBit x) := v3
  have hM := cx.2.2.2
  have bl := bw_le (w := w) (r := r) hw1
  have bwv : bw w r = 1 ∨ bw w r = w := by unfold bw; split <;> omega
  obtain ⟨o1', o2, o3⟩ := ho
  obtain ⟨B2, ⟨M2, F2, h69, h85, h120, h121⟩, g⟩ := ms_1 (l := l) (n := n) (w := w) (d := d) (z := 30) hg cx hB.1 hB.2.1 (by omega) t1 (by omega) (by omega) (ms_30 (d := d + 5) (r := r) (m := bw w r) (q := 0) (t := no) (X := fun x => B.1 122 (32 * 0 + x)) hg hw (by omega) hr rfl (by omega) (by omega) ((hB.1.2.1 78 j1 (by omega)).trans t1) ((hB.1.2.1 80 j1 (by omega)).trans t80) o1' hB.2.2.2.1 (fun _ _ => rfl))
  have ex : Exk B B2 := Or.inr (Gw_E (Gd_n hB.2.2.1) M2)
  have f : ∀ c k, ¬ (c = 73 ∧ (k = 7 ∨ k = 8 ∨ k = 66 ∨ k = 67 ∨ k = 68 ∨ k = 69 ∨ k = 85)) → ¬ (111 ≤ c ∧ c ≤ 114) → ¬ (c = 120 ∨ c = 121) → B2.1 c k = B.1 c k := fun c k q1 q2 q3 => F2.1 c k (by omega) q2 (by omega)
  obtain ⟨C2, eC2⟩ : ∃ C2, C2 = zi (zj (zi C 73 115 (nI 0)) 149 no (C.2 147 0)) 73 118 (nI (no + 1)) := ⟨_, rfl⟩
  have c1 : ∀ c k, ¬ (c = 73 ∧ (k = 115 ∨ k = 118)) → C2.1 c k = C.1 c k := fun c k q => by
    rw [eC2, zi_get, if_neg (by omega)]
    show (zi C 73 115 (nI 0)).1 c k = _
    rw [zi_get, if_neg (by omega)]
  have c115 : C2.1 73 115 = nI 0 := by
    rw [eC2, zi_k (by decide)]
    show (zi C 73 115 (nI 0)).1 73 115 = _
    exact zi_v
  have c2 : ∀ c k, C2.2 c k = if c = 149 ∧ k = no then C.2 147 0 else C.2 c k := fun c k => by
    rw [eC2]
    show (zj (zi C 73 115 (nI 0)) 149 no (C.2 147 0)).2 c k = _
    rw [zj_get]
    rfl
  have fc : FCp C C2 := ⟨fun c k q1 q2 => c1 c k (by omega), fun c k q => by rw [c2, if_neg (by omega)]⟩
  have md : act → MN T 0 0 0 C2 := fun q => ⟨⟨(c1 73 13 (by omega)).trans (hC q).1.1, fun c k y => (c1 c k (by omega)).trans ((hC q).1.2.1 c k y), fun k => by rw [c2, if_neg (by omega)]; exact (hC q).1.2.2 k⟩, c115, (c1 73 110 (by omega)).trans (hC q).2.2.1, fun y => absurd y (by omega)⟩
  have ns : act → NGo l2 Gr2 n w d2 C j1 C2 (j1 + 1) := fun q => by
    have hC := hC q
    rw [eC2]
    exact nst_1 (z := 30) hg2 cx hC (by omega) t1 (by omega) (by omega) (mt_out (by omega) (by omega) hC.2.1 ((hC.1.2.1 78 j1 (by omega)).trans t1) (o2 q) (by omega))
  have ou : OUm inb wb w act (no + 1) B2 C2 := by
    refine ⟨h69, fun q => by rw [eC2]; exact zi_v, fun t ht => ?_⟩
    by_cases z : t = no
    · subst z
      refine ⟨bw w r, v, bwv, h120, v1, fun q => by rw [c2, if_pos ⟨rfl, rfl⟩]; exact v2 q, fun x hx => ?_⟩
      rw [h121 x hx]
      exact Vk_x hi ex (v3 x hx).1
    · obtain ⟨m, v', q1, q2, q3, q4, q5⟩ := o3 t (by omega)
      refine ⟨m, v', q1, by rw [F2.1 120 t (by omega) (by omega) (by omega)]; exact q2, q3, fun y => by rw [c2, if_neg (by omega)]; exact q4 y, fun x hx => ?_⟩
      have : m ≤ 32 := by omega
      rw [F2.1 121 _ (by omega) (by omega) (by omega)]
      exact Vk_x hi ex (q5 x hx)
  have my : MYS inb wb w act Av S T vw nv vb vq vt 0 1 st B2 C2 := ⟨⟨MB_f hB (fun c k q => f c k (by omega) (by omega) (by omega)) (fun k => F2.2 82 k) ((M2.1 7 (by omega)).trans hB.2.1) (Gd_E M2 hB.2.2.1) h85, md, Nat.le_refl _, NV_sm hi hN ex (fun c k q => f c k (by omega) (by omega) (by omega)) (fun _ a _ _ => F2.2 141 a) (fun _ a => inW_i fc a) (fun _ k => by rw [c2, if_neg (by omega)]) (fun _ _ a _ _ => by rw [c2, if_neg (by omega)])⟩, MYe_k y (fun c k q => f c k (by omega) (by omega) (by omega))⟩
  refine OI_seq (j1 := j1 + 1) (Z1 := fun st B C => MYS inb wb w act Av S T vw nv vb vq vt 0 1 st B C ∧ OUm inb wb w act (no + 1) B C ∧ (act → ∀ a, a < iwF → inW C a = lN (vm a))) (Or.inl ⟨B2, C2, st, g, fun q => ⟨ns q, fc⟩, my, ou, fun q a ha => by rw [inW_i fc]; exact hv q a ha⟩) (fun B1 C1 st1 z1 => ?_)
  exact z_oi (j0 := 0) (nv := 0) (u := 0) hi (oz_end (sd := 0) hg hg2 hw1 hw hi cx z1.1 t2 (by omega) hj) z1.2.1 z1.2.2
theorem Vk_in (hd : GdT wb B) (hk : k < wb) (hb : inb k = s.toNat) : Vk inb wb B (2 * nI k) s := fun h7 h65 hwb => by
  obtain ⟨-, -, -, G, hG, e, -⟩ := hd
  refine ⟨VC_in h65 hwb ⟨G, by omega, e⟩ hk, ?_⟩
  have e0 : 2 * nI k = nI (2 * k) := nI_mul2 k
  unfold cvT
  rw [e0, litV_n (nI_pos (by omega)), shr_n (by omega), nI_clamp (by omega), show 2 * k / 2 = k by omega, e, nI_clamp (by omega)]
  have := cvG_lo (T := B) (inb := inb) (wb := wb) (g := 0) (t := k) (by omega) G
  rw [Nat.zero_add] at this
  rw [this]
  show (inb k + lbt (nI (2 * k))) % 2 = _
  have l0 : lbt (nI (2 * k)) = 0 := by
    have b1 := lbt_v (nI (2 * k))
    rw [nI_odd, show 2 * k % 2 = 0 by omega] at b1
    have b2 := lbt_01 (nI (2 * k))
    rcases b2 with q | q
    · exact q
    · rw [q] at b1
      exact absurd b1 (by decide)
  rw [l0, hb]
  cases s <;> rfl
theorem NV_in (hw1 : 1 ≤ w) (hw : w ≤ 32) (iv : INv inb wb vm iwF S T) (hN : NV inb wb w act Av S 0 0 B C) (hB : MB T wb 0 0 0 st B) (hv : act → ∀ a, a < iwF → inW C a = lN (vm a)) (g11 : S.1 11 e = 0) (g12 : S.1 12 e = nI r) (g13 : S.1 13 e = nI z) (hr : r ≤ 1) (hz : z ≤ 64) (ha : a + max 1 z ≤ 256) (haF : a + max 1 z ≤ iwF) (h19 : ∀ y, y < max 1 z → S.1 19 (a + y) = nI (if r = 1 then 1 else w)) : NV inb wb w act (adA Av e a) S 0 0 B C := fun e' a' r' z' h1 h2 h3 h4 h5 => by
  rcases h1 with h1 | ⟨h1, h1'⟩
  · exact hN e' a' r' z' h1 h2 h3 h4 h5
  · rw [h1] at h4 h5 ⊢
    rw [h1']
    have er : r' = r := (nI_eq (by omega) (by omega)).mp (h4.symm.trans g12)
    have ez : z' = z := (nI_eq (by omega) (by omega)).mp (h5.symm.trans g13)
    subst er ez
    refine ⟨fun _ => ⟨ha, fun y hy => ?_⟩, fun q => absurd (g11.symm.trans q) (by decide), fun q => absurd (g11.symm.trans q) (by decide), fun q => absurd (g11.symm.trans q) (by decide)⟩
    obtain ⟨q, bt, q1, q2, q3, q4, q5, q6⟩ := iv.2 (a + y) (by omega)
    have hbt : bt = bw w r' := by
      have e := q2.symm.trans (h19 y hy)
      unfold bw
      refine (nI_eq (by omega) ?_).mp e
      split <;> omega
    subst hbt
    refine ⟨vm (a + y), q5, fun t => hv t _ (by omega), fun x hx => ?_⟩
    rw [hB.1.2.1 117 _ (by omega), q1, nI_add]
    exact Vk_in hB.2.2.1 (by omega) (q6 x hx)
theorem NV_df (h : NV inb wb w act Av S 0 0 B C) (g11 : S.1 11 e = 4) : NV inb wb w act (adA Av e a) S 0 0 B C := fun e' a' r' z' h1 h2 h3 h4 h5 => by
  rcases h1 with h1 | ⟨h1, h1'⟩
  · exact h e' a' r' z' h1 h2 h3 h4 h5
  · rw [h1]
    exact ⟨fun q => absurd (g11.symm.trans q) (by decide), fun q => absurd (g11.symm.trans q) (by decide), fun q => absurd (g11.symm.trans q) (by decide), fun q => absurd (g11.symm.trans q) (by decide)⟩
/-- the whole PROGRAM has its meaning -/
theorem mpg_all (hg : ip_gk (lg_tbl, vwCl, Gr)) (hg2 : ip_gk (lg_tbl, vwCl, Gr2)) (hw1 : 1 ≤ w) (hw : w ≤ 32) (hi : ∀ t, inb t = 0 ∨ inb t = 1) (cx : CTX S T N M) (hD : D ≤ 800) (nu : ∀ x, x ≤ N → ur S x ≤ 30) (iv : INv inb wb vm iwF S T) : ∀ k Av vw iw i j p, aP n w D S T (hxI S) k Av vw iw i j p → i ≤ N → j ≤ M → p ≤ 4000 → iw ≤ iwF → ∃ (nv : Nat) (vb vq vt : Nat → Nat) (no nd : Nat), (VLc w nv vb vq vt Av S ∧ AvO S Av 0 ∧ DEn w D N M S T nd Av p ∧ ∀ e a, Av e a → S.1 11 e = 2 → a < j) ∧ (14 * nd ≤ p ∧ 9 * no ≤ p ∧ vw ≤ 256) ∧ ∀ st B C, MPZ inb wb w act vm iwF (fun _ _ => False) S T 0 0 (fun _ => 0) (fun _ => 0) (fun _ => 0) 0 st B C → OI l l2 Gr Gr2 n w d d2 act (MPZ inb wb w act vm iwF Av S T vw nv vb vq vt no) 0 j st B C
  | 0, Av, vw, iw, i, j, p, h, _, _, _, _ => by
    obtain ⟨e1, e2, e3, e4, e5⟩ := h
    subst e1 e2 e4 e5
    exact ⟨0, fun _ => 0, fun _ => 0, fun _ => 0, 0, 0, ⟨fun t ht => absurd ht (Nat.not_lt_zero t), fun _ _ q => q.elim, fun _ _ q => q.elim, fun _ _ q => q.elim⟩, ⟨by omega, by omega, by omega⟩, fun st B C h0 => Or.inl ⟨B, C, st, MGo_rfl, fun _ => ⟨NGo_rfl, FCp_rfl⟩, h0⟩⟩
  | k + 1, Av, vw, iw, i, j, p, h, hiN, hj, hp, hiw => by
    obtain ⟨i0, j0, iw0, vw0, A0, p0, h0, h1, hpp, hx, ⟨ln1, ln2⟩, e3z, e3b⟩ := h
    have bd := aJ_bnd h1
    have hN := cx.2.1
    have hM := cx.2.2.2
    have hiw0 : iw0 ≤ iw := by
      rcases h1 with ⟨-, ei⟩ | ⟨h1, -⟩ | ⟨-, ei, -⟩ | ⟨-, -, ei, -⟩
      · omega
      · obtain ⟨e, r, z, o, -, -, -, -, -, -, -, -, q9, -⟩ := h1
        omega
      · omega
      · omega
    obtain ⟨nv, vb, vq, vt, no, nd, ⟨c1, a1, d1, k1⟩, ⟨b1, b2, b3⟩, T1⟩ := mpg_all hg hg2 hw1 hw hi cx hD nu iv k A0 vw0 iw0 i0 j0 p0 h0 (by omega) (by omega) (by omega) (by omega)
    have bx : BCX D N M nd S T i0 i p0 p := ⟨cx, hD, nu, by omega, fun x q1 q2 => (hx.2.2.2.1 x q1 q2).2, hp, by omega, hiN, e3b⟩
    have hu0 : HU S i0 i0 0 0 0 := ⟨Nat.le_refl _, by rw [hs_le _ (Nat.le_refl _)]; rfl, by rw [hs_le _ (Nat.le_refl _)]; rfl⟩
    rcases h1 with ⟨h1, ei⟩ | ⟨h1, ev⟩ | ⟨h1, ei, ev⟩ | ⟨h1, eA, ei, ev⟩
    · obtain ⟨nn, h1⟩ := h1
      obtain ⟨nv2, vb2, vq2, vt2, n2, x2, ⟨v2, v2'⟩, s2, ⟨c2, a2, d2', k2⟩, u2, T2⟩ := mq_all (l := l) (l2 := l2) (Gr := Gr) (n := n) (d := d) (d2 := d2) (wb := wb) hg hg2 hw1 hw hi bx nn 0 256 vw0 vw A0 Av p0 i0 i j0 j nv vb vq vt 0 0 h1 a1 d1 k1 c1 hu0 (Nat.le_refl _) (Nat.le_refl _) hj b3
      refine ⟨nv2, vb2, vq2, vt2, no, nd, ⟨c2, a2, DEn_p d2' (by omega), k2⟩, ⟨by omega, by omega, v2' b3⟩, fun st B C h0 => ?_⟩
      exact OI_seq (T1 st B C h0) (fun B1 C1 st1 z1 => z_oi hi (T2 act st1 B1 C1 z1.1) z1.2.1 z1.2.2)
    · obtain ⟨e, r, z, o, q1, q2, q3, q4, q5, q6, q7, q8, q9, q10, q11, q12, e1, e2, f1, t1, t2, t3, t4, q13⟩ := h1
      subst q12 e1 e2 ev
      refine ⟨nv, vb, vq, vt, no, nd, ⟨VLc_mo c1 (fun _ _ q => Or.inl q), fun e' a q => ?_, DEn_p (DEn_sub d1 (fun e' a q y => ?_)) (by omega), fun e' a q y => ?_⟩, ⟨by omega, by omega, b3⟩, fun st B C h0 => ?_⟩
      · rcases q with q | ⟨rfl, rfl⟩
        · exact a1 e' a q
        · exact ⟨fun q => absurd (q2.symm.trans q) (by decide), Or.inl q2, fun q => absurd (q2.symm.trans q) (by decide)⟩
      · rcases q with q | ⟨rfl, rfl⟩
        · exact q
        · exact absurd (q2.symm.trans y) (by decide)
      · rcases q with q | ⟨rfl, rfl⟩
        · have := k1 e' a q y
          omega
        · exact absurd (q2.symm.trans y) (by decide)
      · refine OI_seq (T1 st B C h0) (fun B1 C1 st1 z1 => ?_)
        obtain ⟨my, ou, hv⟩ := z1
        obtain ⟨⟨hB, hC, hh, hNV⟩, y1, y2, y3, y8⟩ := my
        refine Or.inl ⟨B1, C1, st1, ?_, fun q => ⟨?_, FCp_rfl⟩, ⟨⟨hB, hC, hh, NV_in hw1 hw iv hNV hB hv q2 q3 q4 q6 q7 (by omega) (by omega) (fun y hy => (q13 (iw0 + y) (by omega) (by omega)).2)⟩, y1, y2, y3, VLk_aq y8 (by rw [q2]; decide)⟩, ou, hv⟩
        · exact MGo_tr (mg_s (z := 22) hg (by omega) hM (hB.1.1.trans cx.2.2.1) hB.2.1 ((hB.1.2.1 78 j0 (by omega)).trans t1) (by omega) (by omega) (ms_nn (z := 22) (d := d + 5) (by omega) ((hB.1.2.1 78 j0 (by omega)).trans t1) (by omega))) (mg_s (z := 23) hg (by omega) hM (hB.1.1.trans cx.2.2.1) hB.2.1 ((hB.1.2.1 78 _ (by omega)).trans t2) (by omega) (by omega) (ms_nn (z := 23) (d := d + 5) (by omega) ((hB.1.2.1 78 _ (by omega)).trans t2) (by omega)))
        · have hC := hC q
          exact NGo_tr (nst_1 (z := 22) hg2 cx hC (by omega) t1 (by omega) (by omega) (mt_nop (z := 22) (by omega) ((hC.1.2.1 78 j0 (by omega)).trans t1) (by omega))) (nst_1 (z := 23) hg2 cx hC (by omega) t2 (by omega) (by omega) (mt_nop (z := 23) (by omega) ((hC.1.2.1 78 _ (by omega)).trans t2) (by omega)))
    · obtain ⟨e, r, k', i1, j1, q1, q2, q3, q4, q5, q6, q7, q8, hxx, q9, q10, e1, e2, f1, f2, f3, t1, t2, t3, t4, t5⟩ := h1
      have bxx := aX_bnd hxx
      subst q10 e1 e2 ev
      have h14 := ln1 f1
      have hb : HU S i0 (i0 + 1 + k') 0 0 0 := HU_par (HU_e (HU_1 hu0 f1 (by decide : E2 (3 : Int32).toInt = 0)) (by omega)) k' (fun a ha => (q8 a ha).2.2.2.2.1)
      refine ⟨nv, vb, vq, vt, no, nd + 1, ⟨VLc_mo c1 (fun _ _ q => Or.inl q), fun e' a q => ?_, fun e' a q y => ?_, fun e' a q y => ?_⟩, ⟨by omega, by omega, b3⟩, fun st B C h0 => ?_⟩
      · rcases q with q | ⟨rfl, rfl⟩
        · exact a1 e' a q
        · exact ⟨fun q => absurd (q2.symm.trans q) (by decide), Or.inr (Or.inr q5), fun q => absurd (q2.symm.trans q) (by decide)⟩
      · rcases q with q | ⟨rfl, rfl⟩
        · exact DEn_p (DEn_up d1) (by omega) e' a q y
        · refine ⟨A0, r, k', i0 + 1 + k', i1, j1, p0, p, ⟨q1, q4, q3, q5, q6, q7, fun c hc => ⟨(q8 c hc).1, (q8 c hc).2.1, (q8 c hc).2.2.2.1⟩⟩, by rw [show a + k' + 2 = a + 2 + k' by omega]; exact hxx, ⟨f3, t5, t2, by omega, by omega, by omega, by omega, Nat.le_refl _⟩, fun x z1 z2 => ?_, d1⟩
          have := (hx.2.2.2.1 x (by omega) (by omega)).2
          rw [hs_add (m := i0 + 1 + k') (by omega) x z1, hb.2.1] at this
          omega
      · rcases q with q | ⟨rfl, rfl⟩
        · have := k1 e' a q y
          omega
        · exact absurd (q2.symm.trans y) (by decide)
      · refine OI_seq (T1 st B C h0) (fun B1 C1 st1 z1 => ?_)
        obtain ⟨my, ou, hv⟩ := z1
        obtain ⟨⟨hB, hC, hh, hNV⟩, y1, y2, y3, y8⟩ := my
        refine Or.inl ⟨B1, C1, st1, ?_, fun q => ⟨?_, FCp_rfl⟩, ⟨⟨hB, hC, hh, NV_df hNV q2⟩, y1, y2, y3, VLk_aq y8 (by rw [q2]; decide)⟩, ou, hv⟩
        · exact mg_s (z := 26) hg (by omega) hM (hB.1.1.trans cx.2.2.1) hB.2.1 ((hB.1.2.1 78 j0 (by omega)).trans t1) (by omega) (by omega) (ms_26 (d := d + 5) (by omega) ((hB.1.2.1 78 j0 (by omega)).trans t1) ((hB.1.2.2 j0).trans t3))
        · have hC := hC q
          exact nst_1 (z := 26) hg2 cx hC (by omega) t1 (by omega) (by omega) (mt_dnm (by omega) ((hC.1.2.1 78 j0 (by omega)).trans t1) ((hC.1.2.2 j0).trans t3))
    · subst eA ev
      obtain ⟨r, i1, j1, hr, hxx, e1, e2, f1, f2, f3, f4, t1, t2, t3, t4, t5⟩ := h1
      have bxx := aX_bnd hxx
      have h9 := ln2 (by rw [e1, Nat.add_sub_cancel]; exact f3)
      have h2 : HU S i0 (i0 + 1) 0 0 0 := HU_e (HU_1 hu0 f1 (by decide : E2 (1 : Int32).toInt = 0)) (by omega)
      refine ⟨nv, vb, vq, vt, no + 1, nd, ⟨c1, a1, DEn_p d1 (by omega), fun e' a q y => by have := k1 e' a q y; omega⟩, ⟨by omega, by omega, b3⟩, fun st B C h0 => ?_⟩
      subst e1 e2
      refine OI_seq (T1 st B C h0) (fun B1 C1 st1 z1 => OI_seq (z_oi (j0 := 0) hi (OZ_seq (oz_beg hg hg2 hw1 hw hi cx z1.1 t1 t2 (by omega) (by omega)) (fun B2 C2 st2 _ z2 => oz_u (ox_st (tt := 0) hg hg2 hw1 hw hi bx a1 d1 h2 hxx (by omega) (by omega) z2.1) z2.2)) z1.2.1 z1.2.2) (fun B3 C3 st3 z3 => os_out hg hg2 hw1 hw hi cx z3.1.1 z3.1.2.1 z3.1.2.2 z3.2.1 z3.2.2 hr (by omega) t3 t4 t5 (by omega)))
end MPR
