/-! mean() beside build: if -/
section OIG
variable {l l2 : Launch} {Gr Gr2 : zG} {n w d d2 : Nat} {inb : Nat → Nat} {wb : Nat} {act act' : Prop} {Av A2 A3 : Nat → Nat → Prop} {S T B B' B1 B2 C C' C1 C2 : zS} {j0 u nv vw vw' vw2 vw3 sd st j j' j1 j2 j3 t a r z e p M N hr k D NC nv2 nv3 : Nat} {vb vq vt vb2 vq2 vt2 vb3 vq3 vt3 : Nat → Nat} {Z : Nat → zS → zS → Prop} {cs : Nat → Prop}
theorem NV_act (h : NV inb wb w act Av S r k B C) (ha : act' → act) : NV inb wb w act' Av S r k B C := fun e a r z h1 h2 h3 h4 h5 => by
  obtain ⟨k0, k1, k2, k3⟩ := h e a r z h1 h2 h3 h4 h5
  refine ⟨fun q => ⟨(k0 q).1, fun y hy => ?_⟩, fun q => ⟨(k1 q).1, fun y hy => ?_⟩, fun q => ?_, fun q => ⟨(k3 q).1, ?_⟩⟩
  · obtain ⟨v, v1, v2, v3⟩ := (k0 q).2 y hy
    exact ⟨v, v1, fun t => v2 (ha t), v3⟩
  · obtain ⟨v, v1, v2, v3⟩ := (k1 q).2 y hy
    exact ⟨v, v1, fun t => v2 (ha t), v3⟩
  · obtain ⟨v, v1, v2, v3⟩ := k2 q
    exact ⟨v, v1, v2, fun t => v3 (ha t)⟩
  · obtain ⟨v, v1, v2, v3⟩ := (k3 q).2
    exact ⟨v, v1, fun t => v2 (ha t), v3⟩
/-- NAMEs go along where nothing that they are read from changes -/
theorem NV_sm (hi : ∀ t, inb t = 0 ∨ inb t = 1) (h : NV inb wb w act Av S 0 0 B C) (ex : Exk B B') (f : ∀ c k, c = 117 ∨ c = 132 → B'.1 c k = B.1 c k) (f141 : ∀ e a, Av e a → S.1 11 e = 2 → B'.2 141 a = B.2 141 a) (fin : act → ∀ a, inW C' a = inW C a) (c148 : act → ∀ k, C'.2 148 k = C.2 148 k) (c141 : act → ∀ e a, Av e a → S.1 11 e = 2 → C'.2 141 a = C.2 141 a) : NV inb wb w act Av S 0 0 B' C' := fun e a r z h1 h2 h3 h4 h5 => by
  obtain ⟨k0, k1, k2, k3⟩ := h e a r z h1 h2 h3 h4 h5
  refine ⟨fun q => ⟨(k0 q).1, fun y hy => ?_⟩, fun q => ⟨(k1 q).1, fun y hy => ?_⟩, fun q => ?_, fun q => absurd (k3 q).1 (by omega)⟩
  · obtain ⟨v, v1, v2, v3⟩ := (k0 q).2 y hy
    exact ⟨v, v1, fun t => by rw [fin t]; exact v2 t, fun x hx => by rw [f 117 _ (by omega)]; exact Vk_x hi ex (v3 x hx)⟩
  · obtain ⟨v, v1, v2, v3⟩ := (k1 q).2 y hy
    exact ⟨v, v1, fun t => by rw [c148 t]; exact v2 t, fun x hx => by rw [f 132 _ (by omega)]; exact Vk_x hi ex (v3 x hx)⟩
  · obtain ⟨v, v1, v2, v3⟩ := k2 q
    exact ⟨v, v1, by rw [f141 e a h1 q]; exact v2, fun t => by rw [c141 t e a h1 q]; exact v3 t⟩
/-- behind 35 -/
def IFo (inb : Nat → Nat) (wb w : Nat) (act : Prop) (Av : Nat → Nat → Prop) (S T : zS) (vw nv : Nat) (vb vq vt : Nat → Nat) (u sd st NC : Nat) (B C B2 C2 : zS) : Prop := MYS inb wb w act Av S T vw nv vb vq vt (u + 1) (sd + 1) st B2 C2 ∧ Vk inb wb B2 (B2.1 136 u) (decide (NC = 1)) ∧ B2.1 137 u = nI nv ∧ B2.1 138 u = 0 ∧ (∀ t k, t < nv → 32 * vb t ≤ k → k < 32 * (vb t + vq t) → B2.1 139 (8192 * u + k) = B.1 132 k) ∧ (∀ k, B2.1 132 k = B.1 132 k) ∧ Exk B B2
theorem os_open (hg : ip_gk (lg_tbl, vwCl, Gr)) (hg2 : ip_gk (lg_tbl, vwCl, Gr2)) (hw1 : 1 ≤ w) (hw : w ≤ 32) (hi : ∀ t, inb t = 0 ∨ inb t = 1) (cx : CTX S T N M) (x1 : MXS inb wb w act Av S T 0 0 0 1 st B C) (o1 : WVs inb wb w act [1] cs 0 B C) (y : MYe w Av S vw nv vb vq vt u (sd + 1) B) (t1 : T.1 78 j1 = 35) (t80 : T.1 80 j1 = nI j2) (hu : u < 40) (hsd : sd < 80) (hj : j1 < M) : ∃ NC B2, NC ≤ 1 ∧ MGo l Gr n w d B j1 B2 (j1 + 1) ∧ (act → NGo l2 Gr2 n w d2 C j1 (zi C 73 115 (nI 0)) (if NC = 0 then j2 + 1 else j1 + 1)) ∧ SFm j0 u nv B B2 ∧ FCs j0 C (zi C 73 115 (nI 0)) ∧ IFo inb wb w act Av S T vw nv vb vq vt u sd st NC B C B2 (zi C 73 115 (nI 0)) := by
  obtain ⟨hB, hC, hh, hN⟩ := x1
  obtain ⟨NC, v1, v2, v3⟩ := o1 0 (Nat.succ_pos _)
  have v1 : NC < 2 ^ 1 := v1
  have v2 : act → C.2 147 0 = lN NC := v2
  have v3 : V2 inb wb (cs 0) B (B.1 122 (32 * 0)) (NC.testBit 0) := v3 0 (by show 0 < 1; omega)
  have tb : NC.testBit 0 = decide (NC = 1) := by
    have : NC = 0 ∨ NC = 1 := by omega
    rcases this with e | e <;> subst e <;> rfl
  rw [tb] at v3
  have hM := cx.2.2.2
  have y' := y
  obtain ⟨y1, y2, ⟨y3, y4, y5, y6, y7⟩, y8⟩ := y'
  obtain ⟨B2, ⟨F2, L2, h85, h101, h136, h137, h138, h139⟩, g⟩ := ms_1 (l := l) (n := n) (w := w) (d := d) (z := 35) hg cx hB.1 hB.2.1 hj t1 (by omega) (by omega) (ms_35 (d := d + 5) (q := 0) (u := u) (nv := nv) (vb := vb) (vq := vq) hg (by omega) (by omega) hu (by omega) ((hB.1.2.1 78 j1 (by omega)).trans t1) hB.2.2.2.1 y2 y3 (fun t ht => ⟨(y6 t ht).1, (y6 t ht).2.1, by have := (y6 t ht).2.2.2.2.1; omega⟩))
  have f : ∀ c k, ¬ (c = 73 ∧ (k = 85 ∨ k = 101)) → ¬ (136 ≤ c ∧ c ≤ 139) → B2.1 c k = B.1 c k := fun c k q1 q2 => F2 c k q1 (by omega) (by omega)
  have me : MEl B B2 := MEl_f (fun c k q => f c k (by omega) (by omega))
  have ex := Ex_l me hB.2.2.1
  have fc : FCs j0 C (zi C 73 115 (nI 0)) := ⟨fun c k q1 q2 => by rw [zi_get, if_neg (by omega)], fun _ _ _ _ => rfl⟩
  refine ⟨NC, B2, by omega, g, fun q => ?_, ⟨fun c k q => F2 c k (by omega) (by omega) (by omega), fun c k _ => L2 c k⟩, fc, ⟨⟨MB_f hB (fun c k q => f c k (by omega) (by omega)) (fun k => L2 82 k) ((me.1 7 (by omega)).trans hB.2.1) (Gd_l me ⟨sd + 1, by omega, (f 73 94 (by omega) (by omega)).trans y1⟩ hB.2.2.1) h85, fun q => MN_s (hC q) fc zi_v (by rw [zi_k (by decide)]; exact (hC q).2.2.1), Nat.le_refl _, NV_sm hi hN ex (fun c k q => f c k (by omega) (by omega)) (fun e a _ _ => L2 141 a) (fun q a => inW_s fc a) (fun _ _ => rfl) (fun _ _ _ _ _ => rfl)⟩, (f 73 94 (by omega) (by omega)).trans y1, h101, ⟨(f 73 97 (by omega) (by omega)).trans y3, y4, y5, fun t ht => ?_, y7⟩, y8⟩, ?_, h137, h138, h139, fun k => f 132 k (by omega) (by omega), ex⟩
  · have hC := hC q
    have := mt_if (l := l2) (Gr := Gr2) (n := n) (w := w) (d := d2 + 2) (h := 0) (NX := NC) (j := j2) (by omega) (by omega) hC.2.1 ((hC.1.2.1 78 j1 (by omega)).trans t1) ((hC.1.2.1 80 j1 (by omega)).trans t80) (v2 q) (by omega)
    exact nst_1 (z := 35) hg2 cx hC hj t1 (by omega) (by omega) this
  · rw [f 133 t (by omega) (by omega), f 134 t (by omega) (by omega), f 135 t (by omega) (by omega)]
    exact y6 t ht
  · rw [h136]
    exact Vk_x hi ex v3.1
theorem VS_mo (h : ∀ t, t < nv → B.1 133 t = nI (vb t) ∧ B.1 134 t = nI (vq t) ∧ B.1 135 t = nI (vt t) ∧ 1 ≤ vq t ∧ vb t + vq t ≤ vw ∧ (vt t = 1 ∨ vt t = w)) (f : ∀ c k, (133 ≤ c ∧ c ≤ 135) ∧ k < nv → B'.1 c k = B.1 c k) (hv : vw ≤ vw') : ∀ t, t < nv → B'.1 133 t = nI (vb t) ∧ B'.1 134 t = nI (vq t) ∧ B'.1 135 t = nI (vt t) ∧ 1 ≤ vq t ∧ vb t + vq t ≤ vw' ∧ (vt t = 1 ∨ vt t = w) := fun t ht => by
  rw [f 133 t (by omega), f 134 t (by omega), f 135 t (by omega)]
  obtain ⟨w1, w2, w3, w4, w5, w6⟩ := h t ht
  exact ⟨w1, w2, w3, w4, by omega, w6⟩
/-- what a branch leaves is kept -/
theorem IF_kp (hi : ∀ t, inb t = 0 ∨ inb t = 1) {j9 : Nat} (f : SFm j9 (u + 1) nv B B') : B'.1 136 u = B.1 136 u ∧ B'.1 137 u = B.1 137 u ∧ B'.1 138 u = B.1 138 u ∧ ∀ c k, c = 139 ∨ c = 140 → k < 8192 → B'.1 c (8192 * u + k) = B.1 c (8192 * u + k) := ⟨f.1 136 u (by omega), f.1 137 u (by omega), f.1 138 u (by omega), fun c k q1 q2 => f.1 c _ (by omega)⟩
/-- if without else -/
theorem os_if0 (hg : ip_gk (lg_tbl, vwCl, Gr)) (hg2 : ip_gk (lg_tbl, vwCl, Gr2)) (hw1 : 1 ≤ w) (hw : w ≤ 32) (hi : ∀ t, inb t = 0 ∨ inb t = 1) (cx : CTX S T N M) (x1 : MXS inb wb w act Av S T 0 0 0 1 st B C) (o1 : WVs inb wb w act [1] cs 0 B C) (y : MYe w Av S vw nv vb vq vt u (sd + 1) B) (hl : VLc w nv vb vq vt Av S) (hlv : ∀ e a, Av e a → S.1 11 e = 2 → a < j0) (hj0 : j0 ≤ j1) (t1 : T.1 78 j1 = 35) (t80 : T.1 80 j1 = nI j2) (t37 : T.1 78 j2 = 37) (t21 : T.1 78 (j2 + 1) = 21) (hu : u < 40) (hsd : sd < 80) (hjj : j1 < j2) (hj : j2 + 1 < M) (hvw : vw ≤ vw') (hv' : vw' ≤ 256) (s2 : ∀ e a, Av e a → A2 e a) (n2 : nv ≤ nv2) (ag : ∀ t, t < nv → vb2 t = vb t ∧ vq2 t = vq t ∧ vt2 t = vt t) (br1 : ∀ (act' : Prop) st' B' C', MYS inb wb w act' Av S T vw nv vb vq vt (u + 1) (sd + 1) st' B' C' → OZ l l2 Gr Gr2 n w d d2 act' (j1 + 1) (u + 1) nv (MYS inb wb w act' A2 S T vw2 nv2 vb2 vq2 vt2 (u + 1) (sd + 1)) (j1 + 1) j2 st' B' C') : OZ l l2 Gr Gr2 n w d d2 act j0 u nv (MYS inb wb w act Av S T vw' nv vb vq vt u sd) j1 (j2 + 2) st B C := by
  have hM := cx.2.2.2
  obtain ⟨NC, B2, hNC, m2, n2', f2, fc2, ⟨my, vec, e137, e138, e139, e132, ex2⟩⟩ := os_open (l := l) (l2 := l2) (n := n) (d := d) (d2 := d2) (j0 := j0) hg hg2 hw1 hw hi cx x1 o1 y t1 t80 hu hsd (by omega)
  obtain ⟨hB, hC, hh, hN⟩ := x1
  have y' := y
  obtain ⟨y1, y2, ⟨y3, y4, y5, y6, y7⟩, y8⟩ := y'
  have my1 : MYS inb wb w (act ∧ NC = 1) Av S T vw nv vb vq vt (u + 1) (sd + 1) st B2 (zi C 73 115 (nI 0)) := ⟨⟨my.1.1, fun q => my.1.2.1 q.1, my.1.2.2.1, NV_act my.1.2.2.2 (fun q => q.1)⟩, my.2⟩
  rcases br1 (act ∧ NC = 1) st B2 _ my1 with ⟨B3, C3, st3, s3, m3, n3, f3, ex3, my3⟩ | ⟨B3, j9, m3, z3⟩
  rotate_left
  · exact Or.inr ⟨B3, j9, MGo_tr m2 m3, z3⟩
  obtain ⟨⟨hB3, hC3, -, hN3⟩, w1, w2, ⟨w3, w4, w5, w6, w7⟩, w8⟩ := my3
  obtain ⟨k136, k137, k138, k139⟩ := IF_kp (inb := inb) hi f3
  have r133 : ∀ c k, (133 ≤ c ∧ c ≤ 135) ∧ k < nv → B3.1 c k = B.1 c k := fun c k q => (f3.1 c k (by omega)).trans (f2.1 c k (by omega))
  have y6' := VS_mo y6 r133 (Nat.le_refl _)
  have vt32 : ∀ t, t < nv → vt t ≤ 32 := fun t ht => vt_32 hw1 hw y.2.2.1 ht
  have c0 : B3.1 138 u = 0 := k138.trans e138
  obtain ⟨B4, m4, z4 | ⟨z4, gd4, ex4, f4, l4, b97, b101, nt⟩⟩ := os_close (l := l) (Gr := Gr) (n := n) (d := d) (act := act) (NC := NC) (Ca := C3) (Cb := zi C 73 115 (nI 0)) (vb := vb) (vq := vq) (vt := vt) (u := u) (nv := nv) hg hw1 hw hi cx hB3 hu w2 (k137.trans e137) k136 (Vk_x hi ex3 vec) (by omega) (fun t ht => by
      obtain ⟨a1, a2, a3, a4, a5, a6⟩ := y6' t ht
      exact ⟨a1, a2, a3, by omega, a6⟩) y7 (fun t W ht h1 h2 => by
      obtain ⟨g1, g2, g3⟩ := ag t ht
      obtain ⟨e, r, z, q1, q2, q3, q4, q5, q6, q7, q8⟩ := hl t ht
      obtain ⟨-, E⟩ := (hN3 e (vb t) r z (s2 e _ q1) q3 q5 q4 q6).2.1 q2
      obtain ⟨v, v1, v2, v3⟩ := E (W - vb t) (by omega)
      rw [show vb t + (W - vb t) = W by omega] at v2 v3
      exact ⟨v, by rw [q8]; exact v1, fun a b => v2 ⟨a, b⟩, fun x hx => by rw [if_pos c0]; exact v3 x (by rw [← q8]; exact hx)⟩) (fun t W ht h1 h2 => by
      have := vt32 t ht
      have hw6 := (y6 t ht).2.2.2.2.1
      obtain ⟨v, v1, v2, v3⟩ := NV_t hN hl t W ht h1 h2
      refine ⟨v, v1, fun a _ => v2 a, fun x hx => ?_⟩
      rw [if_pos c0, show 8192 * u + 32 * W + x = 8192 * u + (32 * W + x) by omega, k139 139 _ (Or.inl rfl) (by omega), e139 t _ ht (by omega) (by omega)]
      exact Vk_x hi (Ex_tr ex2 ex3) (v3 x hx)) t37 (by omega)
  · exact Or.inr ⟨B4, _, MGo_tr m2 (MGo_tr m3 m4), z4⟩
  have cN : act → NGo l2 Gr2 n w d2 C j1 (if NC = 1 then C3 else zi C 73 115 (nI 0)) (j2 + 1) := fun q => by
    by_cases z : NC = 1
    · rw [if_pos z]
      have n2q := n2' q
      rw [if_neg (by omega)] at n2q
      have hC3 := hC3 ⟨q, z⟩
      exact NGo_tr n2q (NGo_tr (n3 ⟨q, z⟩).1 (nst_1 (z := 37) hg2 cx hC3 (by omega) t37 (by omega) (by omega) (mt_nop (z := 37) (by omega) ((hC3.1.2.1 78 j2 (by omega)).trans t37) (by omega))))
    · rw [if_neg z]
      have n2q := n2' q
      rw [if_pos (by omega)] at n2q
      exact n2q
  have fcN : act → FCs j0 C (if NC = 1 then C3 else zi C 73 115 (nI 0)) := fun q => by
    by_cases z : NC = 1
    · rw [if_pos z]
      exact FCs_tr fc2 (FCs_mo (n3 ⟨q, z⟩).2 (by omega))
    · rw [if_neg z]
      exact fc2
  have mnN : act → MN T 0 0 0 (if NC = 1 then C3 else zi C 73 115 (nI 0)) := fun q => by
    by_cases z : NC = 1
    · rw [if_pos z]
      exact hC3 ⟨q, z⟩
    · rw [if_neg z]
      exact my.1.2.1 q
  have exA : Exk B B4 := Ex_tr ex2 (Ex_tr ex3 ex4)
  have f4' : SFm j0 u nv B3 B4 := ⟨fun c k q => f4 c k (by omega) (by omega) (by omega) (by omega), fun c k _ => l4 c k⟩
  have fA : SFm j0 u nv B B4 := SFm_tr f2 (SFm_tr (SFm_mo f3 (by omega) (by omega) (Nat.le_refl _)) f4')
  refine OZ_seq (Z1 := MYS inb wb w act Av S T vw' nv vb vq vt u (sd + 1)) (j1 := j2 + 1) (Or.inl ⟨B4, _, st3, s3, MGo_tr m2 (MGo_tr m3 m4), fun q => ⟨cN q, fcN q⟩, fA, exA, ⟨⟨MB_f hB3 (fun c k q => f4 c k (by omega) (by omega) (by omega) (by omega)) (fun k => l4 82 k) z4 gd4 ((f4 73 85 (by omega) (by omega) (by omega) (by omega)).trans hB3.2.2.2.1), mnN, Nat.le_refl _, t_NV hi hN y8 nt (fun t ht => by have := (y6 t ht).2.2.2.2.1; omega) exA (fun k => fA.1 117 k (by omega)) (fun e a q1 q2 => fA.2 141 a (by have := hlv e a q1 q2; omega)) (fun q a => inW_s (fcN q) a) (fun q e a q1 q2 => (fcN q).2 141 a (by omega) (by have := hlv e a q1 q2; omega))⟩, (f4 73 94 (by omega) (by omega) (by omega) (by omega)).trans w1, b101, ⟨b97, by omega, hv', VS_mo y6 (fun c k q => fA.1 c k (by omega)) hvw, y7⟩, y8⟩⟩) (fun B1 C1 st1 _ z1 => oz_end hg hg2 hw1 hw hi cx z1 t21 hsd hj)
/-- if with else -/
theorem os_if1 (hg : ip_gk (lg_tbl, vwCl, Gr)) (hg2 : ip_gk (lg_tbl, vwCl, Gr2)) (hw1 : 1 ≤ w) (hw : w ≤ 32) (hi : ∀ t, inb t = 0 ∨ inb t = 1) (cx : CTX S T N M) (x1 : MXS inb wb w act Av S T 0 0 0 1 st B C) (o1 : WVs inb wb w act [1] cs 0 B C) (y : MYe w Av S vw nv vb vq vt u (sd + 1) B) (hl : VLc w nv vb vq vt Av S) (hlv : ∀ e a, Av e a → S.1 11 e = 2 → a < j0) (hj0 : j0 ≤ j1) (t1 : T.1 78 j1 = 35) (t80 : T.1 80 j1 = nI j2) (t36 : T.1 78 j2 = 36) (t80' : T.1 80 j2 = nI j3) (t37 : T.1 78 j3 = 37) (t21 : T.1 78 (j3 + 1) = 21) (hu : u < 40) (hsd : sd < 80) (hjj : j1 < j2) (hjk : j2 < j3) (hj : j3 + 1 < M) (hv2 : vw ≤ vw2) (hvw : vw ≤ vw') (hv' : vw' ≤ 256) (hv2' : vw2 ≤ 256) (s2 : ∀ e a, Av e a → A2 e a) (n2 : nv ≤ nv2) (ag : ∀ t, t < nv → vb2 t = vb t ∧ vq2 t = vq t ∧ vt2 t = vt t) (s3 : ∀ e a, Av e a → A3 e a) (n3 : nv ≤ nv3) (ag3 : ∀ t, t < nv → vb3 t = vb t ∧ vq3 t = vq t ∧ vt3 t = vt t) (br1 : ∀ (act' : Prop) st' B' C', MYS inb wb w act' Av S T vw nv vb vq vt (u + 1) (sd + 1) st' B' C' → OZ l l2 Gr Gr2 n w d d2 act' (j1 + 1) (u + 1) nv (MYS inb wb w act' A2 S T vw2 nv2 vb2 vq2 vt2 (u + 1) (sd + 1)) (j1 + 1) j2 st' B' C') (br2 : ∀ (act' : Prop) st' B' C', MYS inb wb w act' Av S T vw2 nv vb vq vt (u + 1) (sd + 1) st' B' C' → OZ l l2 Gr Gr2 n w d d2 act' (j2 + 1) (u + 1) nv (MYS inb wb w act' A3 S T vw3 nv3 vb3 vq3 vt3 (u + 1) (sd + 1)) (j2 + 1) j3 st' B' C') : OZ l l2 Gr Gr2 n w d d2 act j0 u nv (MYS inb wb w act Av S T vw' nv vb vq vt u sd) j1 (j3 + 2) st B C := by
  have hM := cx.2.2.2
  obtain ⟨NC, B2, hNC, m2, n2', f2, fc2, ⟨my, vec, e137, e138, e139, e132, ex2⟩⟩ := os_open (l := l) (l2 := l2) (n := n) (d := d) (d2 := d2) (j0 := j0) hg hg2 hw1 hw hi cx x1 o1 y t1 t80 hu hsd (by omega)
  obtain ⟨hB, hC, hh, hN⟩ := x1
  have y' := y
  obtain ⟨y1, y2, ⟨y3, y4, y5, y6, y7⟩, y8⟩ := y'
  have my1 : MYS inb wb w (act ∧ NC = 1) Av S T vw nv vb vq vt (u + 1) (sd + 1) st B2 (zi C 73 115 (nI 0)) := ⟨⟨my.1.1, fun q => my.1.2.1 q.1, my.1.2.2.1, NV_act my.1.2.2.2 (fun q => q.1)⟩, my.2⟩
  rcases br1 (act ∧ NC = 1) st B2 _ my1 with ⟨B3, C3, st3, st_le, m3, n3', f3, ex3, my3⟩ | ⟨B3, j9, m3, z3⟩
  rotate_left
  · exact Or.inr ⟨B3, j9, MGo_tr m2 m3, z3⟩
  obtain ⟨⟨hB3, hC3, -, hN3⟩, w1, w2, ⟨w3, w4, w5, w6, w7⟩, w8⟩ := my3
  obtain ⟨k136, k137, k138, k139⟩ := IF_kp (inb := inb) hi f3
  have r133 : ∀ c k, (133 ≤ c ∧ c ≤ 135) ∧ k < nv → B3.1 c k = B.1 c k := fun c k q => (f3.1 c k (by omega)).trans (f2.1 c k (by omega))
  have y6' := VS_mo y6 r133 (Nat.le_refl _)
  have vt32 : ∀ t, t < nv → vt t ≤ 32 := fun t ht => vt_32 hw1 hw y.2.2.1 ht
  -- the turn
  obtain ⟨B4, ⟨T1, T2, T3, T4⟩, m4⟩ := ms_1 (l := l) (n := n) (w := w) (d := d) (z := 36) hg cx hB3.1 hB3.2.1 (by omega) t36 (by omega) (by omega) (ms_36 (d := d + 5) (u := u) (nv := nv) (vb := vb) (vq := vq) hg (by omega) hu (by omega) ((hB3.1.2.1 78 j2 (by omega)).trans t36) w2 (k137.trans e137) (fun t ht => ⟨(y6' t ht).1, (y6' t ht).2.1, by have := (y6' t ht).2.2.2.2.1; omega⟩))
  have f4 : ∀ c k, ¬ (c = 73 ∧ k = 97) → ¬ (c = 138 ∧ k = u) → ¬ c = 132 → ¬ (c = 140 ∧ 8192 * u ≤ k) → B4.1 c k = B3.1 c k := fun c k q1 q2 q3 q4 => by rw [T1 c k q3 (by omega), zi_get, if_neg q2, zi_get, if_neg q1]
  have l4 : ∀ c k, B4.2 c k = B3.2 c k := fun c k => T2 c k
  have g138 : B4.1 138 u = 1 := by rw [T1 138 u (by omega) (by omega)]; exact zi_v
  have g97 : B4.1 73 97 = nI nv := by rw [T1 73 97 (by omega) (by omega), zi_c (by decide)]; exact zi_v
  have me4 : MEl B3 B4 := MEl_f (fun c k q => f4 c k (by omega) (by omega) (by omega) (by omega))
  have ex4 := Ex_l me4 hB3.2.2.1
  have ex24 := Ex_tr ex2 (Ex_tr ex3 ex4)
  have c132 : ∀ t k, t < nv → 32 * vb t ≤ k → k < 32 * (vb t + vq t) → B4.1 132 k = B.1 132 k ∧ B4.1 140 (8192 * u + k) = B3.1 132 k := fun t k ht h1 h2 => by
    have hw6 := (y6 t ht).2.2.2.2.1
    obtain ⟨a1, a2⟩ := T3 t k ht h1 h2
    rw [zi_c (by decide), zi_c (by decide)] at a1 a2
    exact ⟨by rw [a2, k139 139 k (Or.inl rfl) (by omega), e139 t k ht h1 h2], a1⟩
  have nt4 : NVt inb wb (act ∧ ¬ NC = 1) nv vb vq vt B4 (zi C 73 115 (nI 0)) := fun t W ht h1 h2 => by
    have := vt32 t ht
    obtain ⟨v, v1, v2, v3⟩ := NV_t hN hl t W ht h1 h2
    refine ⟨v, v1, fun q => v2 q.1, fun x hx => ?_⟩
    rw [(c132 t _ ht (by omega) (by omega)).1]
    exact Vk_x hi ex24 (v3 x hx)
  have fS : SFm (j1 + 1) u nv B2 B3 := SFm_mo f3 (Nat.le_refl _) (by omega) (Nat.le_refl _)
  have f24 : SFm j0 u nv B B4 := SFm_tr f2 (SFm_tr (SFm_mo fS (by omega) (Nat.le_refl _) (Nat.le_refl _)) ⟨fun c k q => f4 c k (by omega) (by omega) (by omega) (by omega), fun c k _ => l4 c k⟩)
  have my4 : MYS inb wb w (act ∧ ¬ NC = 1) Av S T vw2 nv vb vq vt (u + 1) (sd + 1) st3 B4 (zi C 73 115 (nI 0)) := by
    refine ⟨⟨MB_f hB3 (fun c k q => f4 c k (by omega) (by omega) (by omega) (by omega)) (fun k => l4 82 k) ((me4.1 7 (by omega)).trans hB3.2.1) (Gd_l me4 ⟨sd + 1, by omega, (f4 73 94 (by omega) (by omega) (by omega) (by omega)).trans w1⟩ hB3.2.2.1) ((f4 73 85 (by omega) (by omega) (by omega) (by omega)).trans hB3.2.2.2.1), fun q => my.1.2.1 q.1, Nat.le_refl _, t_NV hi (NV_act hN (fun q => q.1)) y8 nt4 (fun t ht => by have := (y6 t ht).2.2.2.2.1; omega) ex24 (fun k => f24.1 117 k (by omega)) (fun e a q1 q2 => f24.2 141 a (by have := hlv e a q1 q2; omega)) (fun q a => inW_s fc2 a) (fun q e a q1 q2 => rfl)⟩, (f4 73 94 (by omega) (by omega) (by omega) (by omega)).trans w1, (f4 73 101 (by omega) (by omega) (by omega) (by omega)).trans w2, ⟨g97, by omega, hv2', VS_mo y6 (fun c k q => f24.1 c k (by omega)) hv2, y7⟩, y8⟩
  rcases br2 (act ∧ ¬ NC = 1) st3 B4 _ my4 with ⟨B5, C5, st5, st_le5, m5, n5, f5, ex5, my5⟩ | ⟨B5, j9, m5, z5⟩
  rotate_left
  · exact Or.inr ⟨B5, j9, MGo_tr m2 (MGo_tr m3 (MGo_tr m4 m5)), z5⟩
  obtain ⟨⟨hB5, hC5, -, hN5⟩, x1, x2, ⟨x3, x4, x5, x6, x7⟩, x8⟩ := my5
  obtain ⟨p136, p137, p138, p139⟩ := IF_kp (inb := inb) hi f5
  have fS5 : SFm j0 u nv B4 B5 := SFm_mo f5 (by omega) (by omega) (Nat.le_refl _)
  have f25 : SFm j0 u nv B B5 := SFm_tr f24 fS5
  have y65 := VS_mo (vw' := vw) y6 (fun c k q => f25.1 c k (by omega)) (Nat.le_refl _)
  have c1 : ¬ B5.1 138 u = 0 := by rw [p138, g138]; decide
  obtain ⟨B6, m6, z6 | ⟨z6, gd6, ex6, f6, l6, b97, b101, nt⟩⟩ := os_close (l := l) (Gr := Gr) (n := n) (d := d) (act := act) (NC := NC) (Ca := C3) (Cb := C5) (vb := vb) (vq := vq) (vt := vt) (u := u) (nv := nv) hg hw1 hw hi cx hB5 hu x2 (p137.trans ((f4 137 u (by omega) (by omega) (by omega) (by omega)).trans (k137.trans e137))) (p136.trans ((f4 136 u (by omega) (by omega) (by omega) (by omega)).trans k136)) (Vk_x hi (Ex_tr ex3 (Ex_tr ex4 ex5)) vec) (by omega) (fun t ht => by
      obtain ⟨a1, a2, a3, a4, a5, a6⟩ := y65 t ht
      exact ⟨a1, a2, a3, by omega, a6⟩) y7 (fun t W ht h1 h2 => by
      have := vt32 t ht
      have hw6 := (y6 t ht).2.2.2.2.1
      obtain ⟨e, r, z, q1, q2, q3, q4, q5, q6, q7, q8⟩ := hl t ht
      obtain ⟨-, E⟩ := (hN3 e (vb t) r z (s2 e _ q1) q3 q5 q4 q6).2.1 q2
      obtain ⟨v, v1, v2, v3⟩ := E (W - vb t) (by omega)
      rw [show vb t + (W - vb t) = W by omega] at v2 v3
      refine ⟨v, by rw [q8]; exact v1, fun a b => v2 ⟨a, b⟩, fun x hx => ?_⟩
      rw [if_neg c1, show 8192 * u + 32 * W + x = 8192 * u + (32 * W + x) by omega, p139 140 _ (Or.inr rfl) (by omega), (c132 t _ ht (by omega) (by omega)).2]
      exact Vk_x hi (Ex_tr ex4 ex5) (v3 x (by rw [← q8]; exact hx))) (fun t W ht h1 h2 => by
      obtain ⟨e, r, z, q1, q2, q3, q4, q5, q6, q7, q8⟩ := hl t ht
      obtain ⟨-, E⟩ := (hN5 e (vb t) r z (s3 e _ q1) q3 q5 q4 q6).2.1 q2
      obtain ⟨v, v1, v2, v3⟩ := E (W - vb t) (by omega)
      rw [show vb t + (W - vb t) = W by omega] at v2 v3
      exact ⟨v, by rw [q8]; exact v1, fun a b => v2 ⟨a, b⟩, fun x hx => by rw [if_neg c1]; exact v3 x (by rw [← q8]; exact hx)⟩) t37 (by omega)
  · exact Or.inr ⟨B6, _, MGo_tr m2 (MGo_tr m3 (MGo_tr m4 (MGo_tr m5 m6))), z6⟩
  have cN : act → NGo l2 Gr2 n w d2 C j1 (if NC = 1 then C3 else C5) (j3 + 1) := fun q => by
    by_cases z : NC = 1
    · rw [if_pos z]
      have n2q := n2' q
      rw [if_neg (by omega)] at n2q
      have hC3 := hC3 ⟨q, z⟩
      exact NGo_tr n2q (NGo_tr (n3' ⟨q, z⟩).1 (nst_1 (z := 36) hg2 cx hC3 (by omega) t36 (by omega) (by omega) (mt_else (by omega) ((hC3.1.2.1 78 j2 (by omega)).trans t36) ((hC3.1.2.1 80 j2 (by omega)).trans t80'))))
    · rw [if_neg z]
      have n2q := n2' q
      rw [if_pos (by omega)] at n2q
      have hC5 := hC5 ⟨q, z⟩
      exact NGo_tr n2q (NGo_tr (n5 ⟨q, z⟩).1 (nst_1 (z := 37) hg2 cx hC5 (by omega) t37 (by omega) (by omega) (mt_nop (z := 37) (by omega) ((hC5.1.2.1 78 j3 (by omega)).trans t37) (by omega))))
  have fcN : act → FCs j0 C (if NC = 1 then C3 else C5) := fun q => by
    by_cases z : NC = 1
    · rw [if_pos z]
      exact FCs_tr fc2 (FCs_mo (n3' ⟨q, z⟩).2 (by omega))
    · rw [if_neg z]
      exact FCs_tr fc2 (FCs_mo (n5 ⟨q, z⟩).2 (by omega))
  have mnN : act → MN T 0 0 0 (if NC = 1 then C3 else C5) := fun q => by
    by_cases z : NC = 1
    · rw [if_pos z]
      exact hC3 ⟨q, z⟩
    · rw [if_neg z]
      exact hC5 ⟨q, z⟩
  have exA : Exk B B6 := Ex_tr ex24 (Ex_tr ex5 ex6)
  have fA : SFm j0 u nv B B6 := SFm_tr f25 ⟨fun c k q => f6 c k (by omega) (by omega) (by omega) (by omega), fun c k _ => l6 c k⟩
  refine OZ_seq (Z1 := MYS inb wb w act Av S T vw' nv vb vq vt u (sd + 1)) (j1 := j3 + 1) (Or.inl ⟨B6, _, st5, by omega, MGo_tr m2 (MGo_tr m3 (MGo_tr m4 (MGo_tr m5 m6))), fun q => ⟨cN q, fcN q⟩, fA, exA, ⟨⟨MB_f hB5 (fun c k q => f6 c k (by omega) (by omega) (by omega) (by omega)) (fun k => l6 82 k) z6 gd6 ((f6 73 85 (by omega) (by omega) (by omega) (by omega)).trans hB5.2.2.2.1), mnN, Nat.le_refl _, t_NV hi hN y8 nt (fun t ht => by have := (y6 t ht).2.2.2.2.1; omega) exA (fun k => fA.1 117 k (by omega)) (fun e a q1 q2 => fA.2 141 a (by have := hlv e a q1 q2; omega)) (fun q a => inW_s (fcN q) a) (fun q e a q1 q2 => (fcN q).2 141 a (by omega) (by have := hlv e a q1 q2; omega))⟩, (f6 73 94 (by omega) (by omega) (by omega) (by omega)).trans x1, b101, ⟨b97, by omega, hv', VS_mo y6 (fun c k q => fA.1 c k (by omega)) hvw, y7⟩, y8⟩⟩) (fun B1 C1 st1 _ z1 => oz_end hg hg2 hw1 hw hi cx z1 t21 hsd hj)
end OIG
