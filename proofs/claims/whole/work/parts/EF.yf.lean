/-! BUILD on both sides: a[i] = EXPR, its end -/
section YEM
variable {l : Launch} {Cx : Nat → Prop} {Gr : zG} {n w : Nat} {d : Nat} {Av Av' : Nat → Nat → Prop} {S T A A' A1 A2 B B' B0 B1 B2 : zS} {Z Z1 Z2 : Nat → zS → zS → Prop} {c c1 c2 : Int} {cf rf cd hb hrb i i' hc hr st r i1 i2 ih j j' j1 j2 N M z z2 e vw nv u sd no p lo hi k a b y m q D pb ex : Nat} {vb vq vt bo : Nat → Nat} {os : List Nat} {Q : Option Value → zS → Prop} {X : Nat → Int32}
/-- EN behind an element's assignment -/
theorem EN_sto (h : EN w Av S 0 0 0 0 A B) (hw : w ≤ 32) (hw1 : 1 ≤ w) (fA : ∀ c k, c = 20 ∨ (c = 58 ∧ ¬ (a * w ≤ k ∧ k < (a + z) * w)) → A'.1 c k = A.1 c k) (fA2 : ∀ k, A'.2 48 k = A.2 48 k) (gB : ∀ c k, c = 117 ∨ (c = 132 ∧ ¬ (32 * a ≤ k ∧ k < 32 * (a + z))) → B'.1 c k = B.1 c k) (gB2 : ∀ k, B'.2 141 k = B.2 141 k) (v : VM B B') (hv : ∀ k x, k < z → x < m → A'.1 58 ((a + k) * w + x) = B'.1 132 (32 * (a + k) + x) ∧ VC B' (B'.1 132 (32 * (a + k) + x))) (hA3 : ∀ k x, k < z → m ≤ x → x < w → A'.1 58 ((a + k) * w + x) = A.1 58 ((a + k) * w + x)) (hB3 : ∀ k x, k < z → m ≤ x → x < 32 → B'.1 132 (32 * (a + k) + x) = B.1 132 (32 * (a + k) + x)) : EN w Av S 0 0 0 0 A' B' := by
  intro e a' r z' h1 h2 h3 h4 h5
  obtain ⟨k0, k1, k2, k3⟩ := h e a' r z' h1 h2 h3 h4 h5
  refine ⟨fun y => ⟨(k0 y).1, fun t ht => ?_⟩, fun y => ⟨(k1 y).1, fun t x ht hx => ?_⟩, fun y => ?_, fun y => absurd (k3 y).2.1 (by omega)⟩
  · rw [fA 20 _ (Or.inl rfl), gB 117 _ (Or.inl rfl)]
    exact ⟨((k0 y).2 t ht).1, fun x hx => v _ (((k0 y).2 t ht).2 x hx)⟩
  · have hb := bw_le (w := w) (r := r) hw1
    by_cases q : a ≤ a' + t ∧ a' + t < a + z
    · obtain ⟨g, eg⟩ : ∃ g, a' + t = a + g := ⟨a' + t - a, by omega⟩
      rw [eg]
      by_cases q2 : x < m
      · exact hv g x (by omega) q2
      · rw [hA3 g x (by omega) (by omega) (by omega), hB3 g x (by omega) (by omega) (by omega), ← eg]
        exact ⟨((k1 y).2 t x ht hx).1, v _ ((k1 y).2 t x ht hx).2⟩
    · have n1 : ¬ (a * w ≤ (a' + t) * w + x ∧ (a' + t) * w + x < (a + z) * w) := fun y => by
        by_cases q1 : a' + t < a
        · have : (a' + t) * w + w ≤ a * w := by rw [← Nat.succ_mul]; exact Nat.mul_le_mul_right _ q1
          omega
        · have : (a + z) * w ≤ (a' + t) * w := Nat.mul_le_mul_right _ (by omega)
          omega
      rw [fA 58 _ (Or.inr ⟨rfl, n1⟩), gB 132 _ (Or.inr ⟨rfl, by omega⟩)]
      exact ⟨((k1 y).2 t x ht hx).1, v _ ((k1 y).2 t x ht hx).2⟩
  · rw [fA2, gB2]
    exact k2 y
theorem el_fin (hg : ip_gk (lg_tbl, vwCl, Gr)) (ho : ip_old (lg_tbl, vwCl, Gr)) (hw1 : 1 ≤ w) (hw : w ≤ 32) (cx : CTX S T N M) (hD : D ≤ 800) (h0 : XS w Av S T 0 0 0 0 0 i2 (hc + 2) 2 st A B0 ∧ OAs w [0, r] hc 0 A B0 ∧ YE w Av S vw nv vb vq vt u (sd + 1) no bo A B0 ∧ (pb = 0 ∨ nvb (xbo (opf (bw w 0) (A.1 57) (hc * w))) w 0 < z)) (ra : RFA D Av S T e j2 1 r z a) (hz : 0 < z) (haz : a + z ≤ 256) (hpb : pb ≤ 1) (hlo : lo ≤ a) (hhi : a + z ≤ hi) (hCx : ∀ y x, y < z → x < bw w r → ¬ Cx ((a + y) * w + x)) (hsd : sd < 80) (s5 : S.1 5 i = nI e) (s7 : S.1 7 i = nI (2 * pb)) (u4 : S.1 4 i2 = 12) (u5 : S.1 5 i2 = nI i) (t1 : T.1 78 j2 = 34) (t7 : T.1 107 j2 = nI pb) (t2 : T.1 78 (j2 + 1) = 21) (hii : i < i2) (hi' : i2 < N) (hj : j2 + 1 < M) (hhc : hc + 3 ≤ 9682) : TRz l Gr n w d (fun st A B => XS w Av S T 0 0 0 0 0 i2 (hc + 2) 2 st A B ∧ OAs w [0, r] hc 0 A B ∧ YE w Av S vw nv vb vq vt u (sd + 1) no bo A B ∧ (pb = 0 ∨ nvb (xbo (opf (bw w 0) (A.1 57) (hc * w))) w 0 < z)) (fun st A B => YB w Av S T (i2 + 1) hc st A B ∧ YE w Av S vw nv vb vq vt u sd no bo A B) (SF w Cx Av hc sd u nv vw lo hi) (-1) j2 (j2 + 2) st A := by
  obtain ⟨h0, o0, y0, ei⟩ := h0
  have hN := cx.2.1
  have hM := cx.2.2.2
  have hst := h0.2.2.2.2.1
  have hml := bw_le (w := w) (r := r) hw1
  obtain ⟨p, hBU, ⟨A2, g, K2, F2, c8, hO, hO3⟩, mB⟩ := el_core (l := l) (Gr := Gr) (n := n) (d := d) hg ho hw1 hw cx hD h0 ei ra hz haz hpb s5 s7 u4 u5 t1 t7 hii hi' (by omega) hhc
  have m1 : (a + z) * w ≤ 256 * w := Nat.mul_le_mul_right _ haz
  have ml1 : lo * w ≤ a * w := Nat.mul_le_mul_right _ hlo
  have mh1 : (a + z) * w ≤ hi * w := Nat.mul_le_mul_right _ hhi
  have f2 : ∀ c k, ¬ (24 ≤ c ∧ c ≤ 28 ∧ ¬ (c = 24 ∧ (k = 8 ∨ k = 11))) → ¬ (c = 45 ∧ (k = 8 ∨ k = 16)) → ¬ c = 55 → ¬ (c = 58 ∧ a * w ≤ k ∧ k < (a + z) * w) → A2.1 c k = A.1 c k := fun c k q2 q3 q4 q5 => by
    rw [F2.1 c k (by omega) (by omega) (by unfold P58; omega), zi_get, if_neg (by omega)]
  have c16 : A2.1 45 16 = nI (i2 + 1) := by rw [F2.1 45 16 (by omega) (by omega) (by unfold P58; omega)]; exact zi_v
  have c18 : A2.1 45 18 = nI st := (f2 45 18 (by omega) (by omega) (by omega) (by omega)).trans h0.1.2.2.2.2.2.1
  have c17 : A2.1 45 17 = A.1 45 17 := f2 45 17 (by omega) (by omega) (by omega) (by omega)
  have c5 : A2.1 3 5 = 0 := (f2 3 5 (by omega) (by omega) (by omega) (by omega)).trans h0.1.2.1
  have l2 : ∀ c k, A2.2 c k = A.2 c k := fun c k => F2.2 c k
  have kb : KBc A A2 := ⟨fun c k q1 q2 q3 => f2 c k (by omega) (by omega) (by omega) (by omega), fun c k _ => l2 c k⟩
  have com : ∀ B, XS w Av S T 0 0 0 0 0 i2 (hc + 2) 2 st A B → OAs w [0, r] hc 0 A B → ∃ B1, MGo l Gr n w d B j2 B1 (j2 + 1) ∧ (∀ c k, ¬ (c = 73 ∧ (k = 7 ∨ k = 8 ∨ k = 66 ∨ k = 67 ∨ k = 68 ∨ k = 85)) → ¬ (111 ≤ c ∧ c ≤ 114) → ¬ (123 ≤ c ∧ c ≤ 130) → ¬ c = 146 → ¬ (c = 132 ∧ 32 * a ≤ k ∧ k < 32 * (a + z)) → B1.1 c k = B.1 c k) ∧ (∀ c k, B1.2 c k = B.2 c k) ∧ VM B B1 ∧ RL A2 B1 ∧ mPla B1 = mPla B ∧ B1.1 73 85 = nI 0 ∧ (A2.1 24 7 = 0 → ∀ k x, k < z → x < bw w r → A2.1 58 ((a + k) * w + x) = B1.1 132 (32 * (a + k) + x) ∧ VC B1 (B1.1 132 (32 * (a + k) + x))) ∧ ∀ k x, k < z → bw w r ≤ x → x < 32 → B1.1 132 (32 * (a + k) + x) = B.1 132 (32 * (a + k) + x) := fun B xB oB => by
    obtain ⟨hW, B1, n1, M1, G1, h85, hP, hP3⟩ := mB B xB oB
    have rr := r_run2 xB.2.2.1 hBU (fun _ => rfl) hW
    refine ⟨B1, n1, fun c k q1 q2 q3 q4 q5 => G1.1 c k (by omega) q2 (by unfold P32; omega), G1.2, fun x hx => VC_ME M1 (VC_m rr.2.2.2.2.1 hx), RL_E rr.1 K2 M1, (MEc_pla M1).trans (m_run xB.2.2.1.2.1 hW).2.2, h85, fun al k x hk hx => ?_, hP3⟩
    have e := rr.2.1 (by rw [← K2.1 7 (by omega) (by omega)]; exact al)
    rw [hO k x hk hx, hP k x hk hx, e]
    exact ⟨rfl, VC_ME M1 (rr.2.2.1 k x)⟩
  by_cases al : A2.1 24 7 = 0
  rotate_left
  · have ke := kEnd_b (Or.inl al) c5
    refine ⟨1, kEnd A2, g, KBc_tr kb KBc_E, Or.inr ⟨by omega, fun B hB => ?_⟩⟩
    obtain ⟨B1, n1, gb, gl, vm, rl, pl, b85, -, -⟩ := com B hB.1 hB.2.1
    have dead := rl.2.2.resolve_left (fun y => al y.1)
    refine ⟨B1, _, n1, ⟨fun c k q1 q2 q3 => gb c k (by omega) (by omega) (by omega) (by omega) (by omega), fun c k _ => gl c k⟩, by rw [ke.1]; decide, by rw [ke.1]; exact dead.2.1, ?_⟩
    rw [ke.2, dead.2.2, pl, c17]
    exact hB.1.2.2.2.1.symm
  rw [kEnd_g (st := st) al c18 hst] at g
  refine ⟨1, A2, g, kb, Or.inl ⟨st, Nat.le_refl _, by omega, fun B hB => ?_⟩⟩
  obtain ⟨hB, oB, ⟨y1, y2, ⟨y3, y4, y5, y6, y7⟩, y8, y9, o1, o2, o3, o4, o5⟩, -⟩ := hB
  obtain ⟨B1, n1, gb, gl, vm1, rl, pl, b85, hval, hP3⟩ := com B hB oB
  have hval := hval al
  have mT : ∀ c k, (78 ≤ c ∧ c ≤ 81) ∨ c = 89 ∨ (102 ≤ c ∧ c ≤ 107) ∨ c = 117 → B.1 c k = T.1 c k := hB.2.1.1.2.1
  have b7 : B1.1 73 7 = 0 := by
    rcases rl.2.2 with y | y
    · exact y.2.1
    · exact absurd al y.1
  have b94 : B1.1 73 94 = nI (sd + 1) := (gb 73 94 (by omega) (by omega) (by omega) (by omega) (by omega)).trans y1
  have b78 : B1.1 78 (j2 + 1) = nI 21 := ((gb 78 _ (by omega) (by omega) (by omega) (by omega) (by omega)).trans (mT 78 _ (by omega))).trans t2
  have n2 : MGo l Gr n w d B1 (j2 + 1) (zi B1 73 94 (nI sd)) (j2 + 2) := mg_s (z := 21) hg hj hM (((gb 73 13 (by omega) (by omega) (by omega) (by omega) (by omega)).trans hB.2.1.1.1).trans cx.2.2.1) b7 b78 (by omega) (by omega) (ms_21 (d := d + 5) (by omega) b78 b94)
  have g2 : ∀ c k, ¬ (c = 73 ∧ (k = 7 ∨ k = 8 ∨ k = 66 ∨ k = 67 ∨ k = 68 ∨ k = 85 ∨ k = 94)) → ¬ (111 ≤ c ∧ c ≤ 114) → ¬ (123 ≤ c ∧ c ≤ 130) → ¬ c = 146 → ¬ (c = 132 ∧ 32 * a ≤ k ∧ k < 32 * (a + z)) → (zi B1 73 94 (nI sd)).1 c k = B.1 c k := fun c k q1 q2 q3 q4 q5 => by rw [zi_get, if_neg (by omega)]; exact gb c k (by omega) q2 q3 q4 q5
  have El : MEl B1 (zi B1 73 94 (nI sd)) := ⟨fun k q => zi_k (by omega), fun c k q => zi_c (by omega)⟩
  have vm : VM B (zi B1 73 94 (nI sd)) := VM_tr vm1 (fun x hx => VC_El El hx)
  have km : KBm B (zi B1 73 94 (nI sd)) := ⟨fun c k q1 q2 q3 => g2 c k (by omega) (by omega) (by omega) (by omega) (by omega), fun c k _ => gl c k⟩
  have hv : ∀ k x, k < z → x < bw w r → A2.1 58 ((a + k) * w + x) = (zi B1 73 94 (nI sd)).1 132 (32 * (a + k) + x) ∧ VC (zi B1 73 94 (nI sd)) ((zi B1 73 94 (nI sd)).1 132 (32 * (a + k) + x)) := fun k x hk hx => by
    rw [zi_c (by decide)]
    exact ⟨(hval k x hk hx).1, VC_El El (hval k x hk hx).2⟩
  have hA3 : ∀ k x, k < z → bw w r ≤ x → x < w → A2.1 58 ((a + k) * w + x) = A.1 58 ((a + k) * w + x) := fun k x hk hx hx2 => by
    rw [hO3 k x hk hx hx2, zi_c (by decide)]
  have fr58 : ∀ k, (k < lo * w ∨ hi * w ≤ k ∨ Cx k) → A2.1 58 k = A.1 58 k := fun k q => by
    by_cases y : a * w ≤ k ∧ k < (a + z) * w
    · have e1 : k / w * w + k % w = k := by rw [Nat.mul_comm]; exact Nat.div_add_mod k w
      have e2 : a ≤ k / w := (Nat.le_div_iff_mul_le (by omega)).mpr y.1
      have e3 : k / w < a + z := (Nat.div_lt_iff_lt_mul (by omega)).mpr y.2
      have e4 : k % w < w := Nat.mod_lt _ (by omega)
      obtain ⟨gg, eg⟩ : ∃ gg, k / w = a + gg := ⟨k / w - a, by omega⟩
      rw [eg] at e1
      by_cases q2 : k % w < bw w r
      · rcases q with q | q | q
        · omega
        · omega
        · exact absurd (by rw [e1]; exact q) (hCx gg (k % w) (by omega) q2)
      · have := hA3 gg (k % w) (by omega) (by omega) e4
        rw [e1] at this
        exact this
    · exact f2 58 k (by omega) (by omega) (by omega) (by omega)
  refine ⟨_, MGo_tr n1 n2, ⟨⟨⟨CCo_K hB.1.1 kb, c5, al, c8, c16, c18, (f2 45 13 (by omega) (by omega) (by omega) (by omega)).trans hB.1.2.2.2.2.2.2.1, (f2 45 12 (by omega) (by omega) (by omega) (by omega)).trans hB.1.2.2.2.2.2.2.2⟩, ⟨MCo_K hB.2.1.1 km, by rw [zi_k (by decide)]; exact b85, (g2 73 70 (by omega) (by omega) (by omega) (by omega) (by omega)).trans hB.2.1.2.2.1, (g2 73 110 (by omega) (by omega) (by omega) (by omega) (by omega)).trans hB.2.1.2.2.2.1⟩, RL_El rl al KEc_rfl El ⟨sd, by omega, zi_v⟩, hst, EN_sto hB.2.2.2.2.2.2.2 hw hw1 (fun c k q => f2 c k (by omega) (by omega) (by omega) (by omega)) (fun k => l2 48 k) (fun c k q => g2 c k (by omega) (by omega) (by omega) (by omega) (by omega)) (fun k => gl 141 k) vm hv hA3 (fun k x hk hx hx2 => by rw [zi_c (by decide)]; exact hP3 k x hk hx hx2)⟩, zi_v, (g2 73 101 (by omega) (by omega) (by omega) (by omega) (by omega)).trans y2, ⟨(g2 73 97 (by omega) (by omega) (by omega) (by omega) (by omega)).trans y3, y4, y5, fun t ht => by rw [g2 133 t (by omega) (by omega) (by omega) (by omega) (by omega), g2 134 t (by omega) (by omega) (by omega) (by omega) (by omega), g2 135 t (by omega) (by omega) (by omega) (by omega) (by omega)]; exact y6 t ht, y7⟩, y8, fun k hk => ?_, (f2 24 11 (by omega) (by omega) (by omega) (by omega)).trans o1, (g2 73 69 (by omega) (by omega) (by omega) (by omega) (by omega)).trans o2, o3, fun t ht => by rw [f2 31 t (by omega) (by omega) (by omega) (by omega)]; exact o4 t ht, fun t ht => ?_⟩, ?_⟩
  · by_cases q : a * w ≤ k ∧ k < (a + z) * w
    · have e1 : k / w * w + k % w = k := by rw [Nat.mul_comm]; exact Nat.div_add_mod k w
      have e2 : a ≤ k / w := (Nat.le_div_iff_mul_le (by omega)).mpr q.1
      have e3 : k / w < a + z := (Nat.div_lt_iff_lt_mul (by omega)).mpr q.2
      have e4 : k % w < w := Nat.mod_lt _ (by omega)
      obtain ⟨gg, eg⟩ : ∃ gg, k / w = a + gg := ⟨k / w - a, by omega⟩
      rw [eg] at e1
      by_cases q2 : k % w < bw w r
      · have := hv gg (k % w) (by omega) q2
        rw [e1] at this
        rw [this.1]
        exact this.2.2
      · have := hA3 gg (k % w) (by omega) (by omega) e4
        rw [e1] at this
        rw [this]
        exact y9 k hk
    · rw [f2 58 k (by omega) (by omega) (by omega) (by omega)]
      exact y9 k hk
  · obtain ⟨m, q1, q2, q3, q4⟩ := o5 t ht
    refine ⟨m, q1, (g2 120 t (by omega) (by omega) (by omega) (by omega) (by omega)).trans q2, q3, fun x hx => ?_⟩
    rw [f2 32 _ (by omega) (by omega) (by omega) (by omega), g2 121 _ (by omega) (by omega) (by omega) (by omega) (by omega)]
    exact ⟨(q4 x hx).1, vm _ (q4 x hx).2⟩
  · exact ⟨⟨fun k _ => f2 57 k (by omega) (by omega) (by omega) (by omega), fun k _ q => fr58 k q, fun e a _ => ⟨l2 48 e, l2 49 e⟩⟩, ⟨fun t q => g2 131 t (by omega) (by omega) (by omega) (by omega) (by omega), fun t c _ q2 q3 => g2 c t (by omega) (by omega) (by omega) (by omega) (by omega), fun k c _ q2 => g2 c k (by omega) (by omega) (by omega) (by omega) (by omega), fun t c _ q2 q3 => g2 c t (by omega) (by omega) (by omega) (by omega) (by omega), fun e a _ => ⟨gl 141 a, gl 142 a, g2 143 a (by omega) (by omega) (by omega) (by omega) (by omega)⟩⟩, vm, km⟩
theorem y_elt (hg : ip_gk (lg_tbl, vwCl, Gr)) (ho : ip_old (lg_tbl, vwCl, Gr)) (hw1 : 1 ≤ w) (hw : w ≤ 32) (cx : CTX S T N M) (nu : ∀ x, x ≤ N → ur S x ≤ 30) (hD : D ≤ 800) (h0 : YB w Av S T i hc st A B0 ∧ YE w Av S vw nv vb vq vt u sd no bo A B0) (an : aSel2 w D S T lo hi Av p i i' j j') (expr : ∀ t r ia ib ja jb, ((t = 0 ∧ ia = i + 2) ∨ (t = 1 ∧ ∃ i1 j1, aX w D Av 0 S T (i + 2) i1 (j + 2) j1 ∧ S.1 4 i1 = 26 ∧ ia = i1 + 1)) → aX w D Av r S T ia ib ja jb → ib < i' → jb < j' → ∀ A1 B1 st1, XS w Av S T 0 0 0 0 0 ia (hc + t) t st1 A1 B1 → TRx l Gr n w d Av S T 0 0 0 0 0 r ia ib ja jb (hc + t) t st1 A1) (hCx : CXo w Av S Cx) (hvw : hi ≤ 256) (hsd : sd < 80) (hi' : i' ≤ N) (hj : j' ≤ M) (hhc : hc + 3 ≤ 9682) : TRz l Gr n w d (fun st A B => YB w Av S T i hc st A B ∧ YE w Av S vw nv vb vq vt u sd no bo A B) (fun st A B => YB w Av S T i' hc st A B ∧ YE w Av S vw nv vb vq vt u sd no bo A B) (SF w Cx Av hc sd u nv vw lo hi) 0 j j' st A := by
  obtain ⟨e, a, r, z, pb, q, i1, j1, i2, j2, ra1, ra2, hz, hpb, hlo, hhi, hx1, hx2, e1, e2, f1, f2, f3, f4, f5, f6, f7, f8, f9, f10, t1, t2, t3, t4, t5, t6, t7, t8, t9⟩ := an
  have bx1 := aX_bnd hx1
  have bx2 := aX_bnd hx2
  subst e1 e2
  have s1 := y_beg (l := l) (Gr := Gr) (n := n) (d := d) (Cx := Cx) (lo := lo) (hi := hi) hg ho hw1 hw cx h0 f1 f2 t1 t2 hsd (by omega) (by omega) (by omega)
  have smo : ∀ (A A' B B' : zS), SF w Cx Av hc (sd + 1) u nv vw lo hi A A' B B' → SF w Cx Av hc sd u nv vw lo hi A A' B B' := fun A A' B B' h => SF_mo h (fun _ _ h => h) (Nat.le_refl _) (by omega) (Nat.le_refl _) (Nat.le_refl _) (Nat.le_refl _) (Nat.le_refl _) (Nat.le_refl _)
  have s2 := TRz_seq (c2 := -1) (Z2 := fun st A B => XS w Av S T 0 0 0 0 0 (i + 2) hc 0 st A B ∧ YE w Av S vw nv vb vq vt u (sd + 1) no bo A B) (j2 := j + 2) h0 s1 (by omega) (fun st A B h => h.1.2.2.2.2.1) (fun _ _ _ _ _ _ => SF_tr) (fun _ _ _ _ h => h.2.2.2) (fun A1 B1 st1 _ z1 => TRz_mo (z_nop (z := 11) (z2 := 33) hg ho hw1 hw cx z1 (by omega) f3 (by omega) t3 (by omega) (by omega) (by omega) (Nat.le_refl _)) smo)
  have s3 := TRz_seq (c2 := 0) (Z2 := fun st A B => XS w Av S T 0 0 0 0 0 i2 (hc + 2) 2 st A B ∧ OAs w [0, r] hc 0 A B ∧ YE w Av S vw nv vb vq vt u (sd + 1) no bo A B ∧ (pb = 0 ∨ nvb (xbo (opf (bw w 0) (A.1 57) (hc * w))) w 0 < z)) (j2 := j2) h0 s2 (by omega) (fun st A B h => h.1.2.2.2.2.1) (fun _ _ _ _ _ _ => SF_tr) (fun _ _ _ _ h => h.2.2.2) (fun A1 B1 st1 _ z1 => TRz_mo (elt_mid (ih := i + 1) (q := q) (Cx := Cx) (lo := lo) (hi := hi) hg ho hw1 hw cx hD nu z1.1 (TRu_app (r := 0) hw1 hw z1.1 (nu i1 (by omega)) (TRu_nil (l := l) (Gr := Gr) (n := n) (d := d) (i := i + 2) (j := j + 2)) (fun A2 B2 st2 _ x2 => expr 0 0 _ _ _ _ (Or.inl ⟨rfl, rfl⟩) hx1 (by omega) (by omega) A2 B2 st2 x2)) (fun A2 B2 st2 x2 => expr 1 r _ _ _ _ (Or.inr ⟨rfl, i1, j1, hx1, f6, rfl⟩) hx2 (by omega) (by omega) A2 B2 st2 x2) ra1 hpb f4 f5 f6 f7 f8 t4 t5 t6 (by omega) (by omega) (by omega) (by omega) (by omega)) smo)
  have s4 := TRz_seq (c2 := -1) (Z2 := fun st A B => YB w Av S T (i2 + 1) hc st A B ∧ YE w Av S vw nv vb vq vt u sd no bo A B) (j2 := j2 + 2) h0 s3 (by omega) (fun st A B h => h.1.2.2.2.2.1) (fun _ _ _ _ _ _ => SF_tr) (fun _ _ _ _ h => h.2.2.2) (fun A1 B1 st1 _ z1 => el_fin (i := i + 1) (e := e) (a := a) (r := r) hg ho hw1 hw cx hD z1 ra2 hz (by omega) hpb hlo hhi (fun y x hy hx => by obtain ⟨p1, p2, p3, p4, p5, p6, p7, p8, p9, -⟩ := ra2; exact hCx e a r z p6 (by rw [p7]; rfl) p3 p8 p4 p9 y x (by omega) hx) hsd f4 f5 f9 f10 t7 t8 t9.1 (by omega) (by omega) (by omega) (by omega))
  exact TRz_le s4 (by omega)
end YEM
