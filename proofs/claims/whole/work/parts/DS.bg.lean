/-! BUILD on both sides: a statement begins, ends; frames -/
/-- the reference's circuit alone is the same -/
def MEl (T T' : zS) : Prop := (∀ k, k = 7 ∨ (65 ≤ k ∧ k ≤ 68) → T'.1 73 k = T.1 73 k) ∧ ∀ c k, 111 ≤ c ∧ c ≤ 114 → T'.1 c k = T.1 c k
/-- what a statement keeps -/
def SF (w : Nat) (Cx : Nat → Prop) (Av : Nat → Nat → Prop) (hc sd u nv vw lo hi : Nat) (A A' B B' : zS) : Prop :=
  ((∀ k, k < hc * w → A'.1 57 k = A.1 57 k) ∧ (∀ k, k < vw * w → (k < lo * w ∨ hi * w ≤ k ∨ Cx k) → A'.1 58 k = A.1 58 k) ∧ ∀ e a, Av e a → A'.2 48 e = A.2 48 e ∧ A'.2 49 e = A.2 49 e) ∧
  ((∀ t, t < sd → B'.1 131 t = B.1 131 t) ∧ (∀ t c, t < u → 136 ≤ c → c ≤ 138 → B'.1 c t = B.1 c t) ∧ (∀ k c, k < 8192 * u → (c = 139 ∨ c = 140) → B'.1 c k = B.1 c k) ∧ (∀ t c, t < nv → 133 ≤ c → c ≤ 135 → B'.1 c t = B.1 c t) ∧ ∀ e a, Av e a → B'.2 141 a = B.2 141 a ∧ B'.2 142 a = B.2 142 a ∧ B'.1 143 a = B.1 143 a) ∧ VM B B' ∧ KBm B B'
/-- cells of no visible var -/
def CXo (w : Nat) (Av : Nat → Nat → Prop) (S : zS) (Cx : Nat → Prop) : Prop := ∀ e a r z, Av e a → S.1 11 e = 1 → r ≤ 1 → S.1 12 e = nI r → z ≤ 64 → S.1 13 e = nI z → ∀ y x, y < max 1 z → x < bw w r → ¬ Cx ((a + y) * w + x)
section BEG
variable {l : Launch} {Cx : Nat → Prop} {Gr : zG} {n w : Nat} {d : Nat} {Av Av' : Nat → Nat → Prop} {S T A A' A1 A2 B B' B0 B1 B2 : zS} {Z Z1 Z2 : Nat → zS → zS → Prop} {c c1 c2 : Int} {cf rf cd hb hrb i i' hc hr st r i1 j j' j1 j2 N M z e vw nv u sd no p lo hi k : Nat} {vb vq vt bo : Nat → Nat}
theorem SF_tr (h1 : SF w Cx Av hc sd u nv vw lo hi A A1 B B1) (h2 : SF w Cx Av hc sd u nv vw lo hi A1 A2 B1 B2) : SF w Cx Av hc sd u nv vw lo hi A A2 B B2 := ⟨⟨fun k q => (h2.1.1 k q).trans (h1.1.1 k q), fun k q q2 => (h2.1.2.1 k q q2).trans (h1.1.2.1 k q q2), fun e a q => ⟨((h2.1.2.2 e a q).1).trans (h1.1.2.2 e a q).1, ((h2.1.2.2 e a q).2).trans (h1.1.2.2 e a q).2⟩⟩, ⟨fun t q => (h2.2.1.1 t q).trans (h1.2.1.1 t q), fun t c q q2 q3 => (h2.2.1.2.1 t c q q2 q3).trans (h1.2.1.2.1 t c q q2 q3), fun k c q q2 => (h2.2.1.2.2.1 k c q q2).trans (h1.2.1.2.2.1 k c q q2), fun t c q q2 q3 => (h2.2.1.2.2.2.1 t c q q2 q3).trans (h1.2.1.2.2.2.1 t c q q2 q3), fun e a q => ⟨((h2.2.1.2.2.2.2 e a q).1).trans (h1.2.1.2.2.2.2 e a q).1, ((h2.2.1.2.2.2.2 e a q).2.1).trans (h1.2.1.2.2.2.2 e a q).2.1, ((h2.2.1.2.2.2.2 e a q).2.2).trans (h1.2.1.2.2.2.2 e a q).2.2⟩⟩, VM_tr h1.2.2.1 h2.2.2.1, KBm_tr h1.2.2.2 h2.2.2.2⟩
theorem SF_x {hc' hr' cd' : Nat} (f : FK (PXc w hc' cd') A A') (g : FM (PXm hr' cd') B B') (v : VM B B') (h : hc ≤ hc') : SF w Cx Av hc sd u nv vw lo hi A A' B B' := by
  have m : hc * w ≤ hc' * w := Nat.mul_le_mul_right _ h
  exact ⟨⟨fun k q => f.1 57 k (by omega) (by omega) (by unfold PXc; omega), fun k _ _ => f.1 58 k (by omega) (by omega) (by unfold PXc; omega), fun e a _ => ⟨f.2 48 e, f.2 49 e⟩⟩, ⟨fun t _ => g.1 131 t (by omega) (by omega) (by unfold PXm; omega), fun t c _ q2 q3 => g.1 c t (by omega) (by omega) (by unfold PXm; omega), fun k c _ q2 => g.1 c k (by omega) (by omega) (by unfold PXm; omega), fun t c _ q2 q3 => g.1 c t (by omega) (by omega) (by unfold PXm; omega), fun e a _ => ⟨g.2 141 a, g.2 142 a, g.1 143 a (by omega) (by omega) (by unfold PXm; omega)⟩⟩, v, KBm_F g⟩
theorem SF_mo {Av2 : Nat → Nat → Prop} {hc2 sd2 u2 nv2 vw2 lo2 hi2 : Nat} (h : SF w Cx Av2 hc2 sd2 u2 nv2 vw2 lo2 hi2 A A' B B') (a0 : ∀ e a, Av e a → Av2 e a) (a1 : hc ≤ hc2) (a2 : sd ≤ sd2) (a3 : u ≤ u2) (a4 : nv ≤ nv2) (a5 : vw ≤ vw2) (a6 : lo ≤ lo2) (a7 : hi2 ≤ hi) : SF w Cx Av hc sd u nv vw lo hi A A' B B' := by
  have m1 : hc * w ≤ hc2 * w := Nat.mul_le_mul_right _ a1
  have m5 : vw * w ≤ vw2 * w := Nat.mul_le_mul_right _ a5
  have m6 : lo * w ≤ lo2 * w := Nat.mul_le_mul_right _ a6
  have m7 : hi2 * w ≤ hi * w := Nat.mul_le_mul_right _ a7
  exact ⟨⟨fun k q => h.1.1 k (by omega), fun k q q2 => h.1.2.1 k (by omega) (q2.elim (fun y => Or.inl (by omega)) (fun y => y.elim (fun y => Or.inr (Or.inl (by omega))) (fun y => Or.inr (Or.inr y)))), fun e a q => h.1.2.2 e a (a0 e a q)⟩, ⟨fun t q => h.2.1.1 t (by omega), fun t c q q2 q3 => h.2.1.2.1 t c (by omega) q2 q3, fun k c q q2 => h.2.1.2.2.1 k c (by omega) q2, fun t c q q2 q3 => h.2.1.2.2.2.1 t c (by omega) q2 q3, fun e a q => h.2.1.2.2.2.2 e a (a0 e a q)⟩, h.2.2⟩
theorem VC_El {x : Int32} (h : MEl B B') (hx : VC B x) : VC B' x := ⟨by
  have := hx.1
  unfold VL at this ⊢
  rw [h.1 65 (by omega), h.1 66 (by omega)]
  exact this, hx.2⟩
theorem cAn_El (h : MEl B B') : ∀ k, cAn B' k = cAn B k
  | 0 => rfl
  | k + 1 => by
    show cAn B' k + B'.1 111 k = cAn B k + B.1 111 k
    rw [cAn_El h k, h.2 111 k (by omega)]
theorem RL_El (hR : RL A B) (h7 : A.1 24 7 = 0) (hS : KEc A A') (hT : MEl B B') (h94 : ∃ q, q ≤ 80 ∧ B'.1 73 94 = nI q) : RL A' B' := by
  obtain ⟨hG, ⟨⟨⟨g, hg, h66⟩, -⟩, iw, hi, h65⟩, hh⟩ := hR
  have q := hh.resolve_right (fun y => y.1 h7)
  refine ⟨GK_KE hS hG, ⟨⟨⟨g, hg, (hT.1 66 (by omega)).trans h66⟩, h94⟩, iw, hi, (hT.1 65 (by omega)).trans h65⟩, Or.inl ⟨(hS.1 7 (by omega) (by omega)).trans q.1, (hT.1 7 (by omega)).trans q.2.1, ?_⟩⟩
  obtain ⟨g, iw, hg, hi, h4, h66, h8, h65, h5, h67, h6, ⟨Dm, hDm, h68⟩, hr⟩ := q.2.2
  refine ⟨g, iw, hg, hi, (hS.1 4 (by omega) (by omega)).trans h4, (hT.1 66 (by omega)).trans h66, (hS.1 8 (by omega) (by omega)).trans h8, (hT.1 65 (by omega)).trans h65, ?_, ?_, ?_, ⟨Dm, hDm, (hT.1 68 (by omega)).trans h68⟩, fun k hk => ⟨?_, WG1_E (hr k hk).2 (fun c q1 q2 => hT.2 c k (by omega)) (hT.1 68 (by omega))⟩⟩
  · rw [hS.1 5 (by omega) (by omega), hT.1 67 (by omega)]; exact h5
  · rw [hT.1 67 (by omega), cAn_El hT]; exact h67
  · rw [hS.1 6 (by omega) (by omega), hT.1 68 (by omega)]; exact h6
  · rw [hS.2 25 k (by omega) (by omega), hS.2 26 k (by omega) (by omega), hS.2 27 k (by omega) (by omega), hS.2 28 k (by omega) (by omega), hT.2 113 k (by omega), hT.2 114 k (by omega), hT.2 112 k (by omega), hT.2 111 k (by omega), cAn_El hT]
    exact (hr k hk).1
theorem YB_7 (h : YB w Av S T i hc st A B) : B.1 73 7 = 0 := by
  rcases h.2.2.1.2.2 with y | y
  · exact y.2.1
  · exact absurd h.1.2.2.1 y.1
theorem cy_1 (hg : ip_gk (lg_tbl, vwCl, Gr)) (ho : ip_old (lg_tbl, vwCl, Gr)) (hw : w ≤ 32) (cx : CTX S T N M) (h0 : YB w Av S T i hc st A B0) (hi : i < N) (h4 : S.1 4 i = nI z) (hz : z < 56) (he : oRow2 z = nI e) (heh : e ≤ hc) (hhc : hc + 1 ≤ 9682) (run : ∀ (Q : Option Value → zS → Prop) (x : Int32), zW l Gr (zc n w) 168 M_Builder_build (d + 12) 151 [some (.ref 77), some (.int x), none, none] [] A1 Q → zW l Gr (zc n w) 168 M_Builder_build (d + 12) 100 [some (.ref 77), some (.int x), some (.int (nI i)), some (.int (nI z))] [] (zi A 45 16 (nI (i + 1))) Q) : CGo l Gr n w d 1 A (kEnd A1) :=
  kg_1 hg ho hw (h0.1.1.1.trans cx.1) hi cx.2.1 h0.1.2.1 h0.1.2.2.2.2.1 ((h0.1.1.2 4 i (by omega)).trans h4) hz h0.1.2.2.2.1 he heh hhc run
/-- the store behind a statement's begin -/
def kBeg (A : zS) (i p st : Nat) : zS := zi (zi (zi A 45 16 (nI (i + 1))) 45 17 (nI p)) 45 18 (nI (st + 1))
def mBeg (B : zS) (sd p : Nat) : zS := zi (zi B 131 sd (nI p)) 73 94 (nI (sd + 1))
theorem kBeg_n {c k : Nat} (h : ¬ (c = 45 ∧ 16 ≤ k ∧ k ≤ 18)) : (kBeg A i p st).1 c k = A.1 c k := by
  unfold kBeg
  rw [zi_get, if_neg (by omega), zi_get, if_neg (by omega), zi_get, if_neg (by omega)]
theorem mBeg_n {c k : Nat} (h : ¬ (c = 73 ∧ k = 94)) (h2 : ¬ (c = 131 ∧ k = sd)) : (mBeg B sd p).1 c k = B.1 c k := by
  unfold mBeg
  rw [zi_get, if_neg (by omega), zi_get, if_neg (by omega)]
theorem mBeg_pla (hsd : sd < 80) : mPla (mBeg B sd p) = nI p := by
  have e : (mBeg B sd p).1 73 94 = nI (sd + 1) := by unfold mBeg; exact zi_v
  unfold mPla
  rw [e, if_neg (nI_ne0 (by omega) (by omega)), nI_pred, nI_clamp (by omega)]
  unfold mBeg
  rw [zi_c (by decide)]
  exact zi_v
theorem TRz_w {Fr : zS → zS → zS → zS → Prop} (h : TRz l Gr n w d Z Z1 Fr c j j1 st A) (hZ : ∀ st A B, Z1 st A B → Z2 st A B) : TRz l Gr n w d Z Z2 Fr c j j1 st A := by
  obtain ⟨k1, A1, g1, kb1, ⟨st1, s1, b1, m1⟩ | b1⟩ := h
  · refine ⟨k1, A1, g1, kb1, Or.inl ⟨st1, s1, b1, fun B hB => ?_⟩⟩
    obtain ⟨B1, n1, z1, f1⟩ := m1 B hB
    exact ⟨B1, n1, hZ _ _ _ z1, f1⟩
  · exact ⟨k1, A1, g1, kb1, Or.inr b1⟩
/-- what the frame keeps goes along -/
theorem TRz_kp {Fr : zS → zS → zS → zS → Prop} {P P' : zS → zS → Prop} (h : TRz l Gr n w d Z Z1 Fr c j j1 st A) (hP : ∀ st1 A' B B', Z st A B → P A B → Z1 st1 A' B' → Fr A A' B B' → P' A' B') : TRz l Gr n w d (fun st A B => Z st A B ∧ P A B) (fun st A B => Z1 st A B ∧ P' A B) Fr c j j1 st A := by
  obtain ⟨k1, A1, g1, kb1, ⟨st1, s1, b1, m1⟩ | ⟨b1, m1⟩⟩ := h
  · refine ⟨k1, A1, g1, kb1, Or.inl ⟨st1, s1, b1, fun B hB => ?_⟩⟩
    obtain ⟨B1, n1, z1, f1⟩ := m1 B hB.1
    exact ⟨B1, n1, ⟨z1, hP _ _ _ _ hB.1 hB.2 z1 f1⟩, f1⟩
  · exact ⟨k1, A1, g1, kb1, Or.inr ⟨b1, fun B hB => m1 B hB.1⟩⟩
theorem y_begp (hg : ip_gk (lg_tbl, vwCl, Gr)) (ho : ip_old (lg_tbl, vwCl, Gr)) (hw1 : 1 ≤ w) (hw : w ≤ 32) (cx : CTX S T N M) (h0 : YB w Av S T i hc st A B0 ∧ YE w Av S vw nv vb vq vt u sd no bo A B0) (s4 : S.1 4 i = 1) (s6 : S.1 6 i = nI p) (t1 : T.1 78 j = 20) (t2 : T.1 81 j = nI p) (hsd : sd < 80) (hi' : i < N) (hj : j < M) (hhc : hc + 1 ≤ 9682) : TRz l Gr n w d (fun st A B => YB w Av S T i hc st A B ∧ YE w Av S vw nv vb vq vt u sd no bo A B) (fun st A B => (XS w Av S T 0 0 0 0 0 (i + 1) hc 0 st A B ∧ YE w Av S vw nv vb vq vt u (sd + 1) no bo A B) ∧ B.1 131 sd = nI p) (SF w Cx Av hc sd u nv vw lo hi) 299 j (j + 1) st A := by
  obtain ⟨h0, -⟩ := h0
  have hN := cx.2.1
  have hM := cx.2.2.2
  have hst := h0.2.2.2.1
  have run : zMv l Gr (zc n w) 168 M_Builder_buildStatement (d + 11) [.ref 77, .int (nI i), .int (nI 1)] (zi A 45 16 (nI (i + 1))) (fun X => X = kBeg A i p st) := w_st1 (d := d + 4) (by omega) (by rw [zi_c (by decide), h0.1.1.2 6 i (by omega)]; exact s6) (by rw [zi_k (by decide)]; exact h0.1.2.2.2.2.2.1)
  have g := cy_1 (z := 1) (e := 0) hg ho hw cx h0 hi' s4 (by omega) rfl (by omega) hhc (kg_S (l := l) (n := n) (d := d) hg (by omega) run)
  have c18 : (kBeg A i p st).1 45 18 = nI (st + 1) := by unfold kBeg; exact zi_v
  have c17 : (kBeg A i p st).1 45 17 = nI p := by unfold kBeg; rw [zi_k (by decide)]; exact zi_v
  have c16 : (kBeg A i p st).1 45 16 = nI (i + 1) := by unfold kBeg; rw [zi_k (by decide), zi_k (by decide)]; exact zi_v
  have K : KEc A (kBeg A i p st) := ⟨fun k q1 q2 => kBeg_n (by omega), fun c k q1 q2 => kBeg_n (by omega)⟩
  have c7 : (kBeg A i p st).1 24 7 = 0 := (kBeg_n (by omega)).trans h0.1.2.2.1
  have c5 : (kBeg A i p st).1 3 5 = 0 := (kBeg_n (by omega)).trans h0.1.2.1
  have kb : KBc A (kBeg A i p st) := ⟨fun c k q1 q2 q3 => kBeg_n (by omega), fun _ _ _ => rfl⟩
  by_cases z : st < 100000
  · refine ⟨1, kBeg A i p st, by rw [← kEnd_g c7 c18 (by omega)]; exact g, kb, Or.inl ⟨st + 1, by omega, by omega, fun B hB => ?_⟩⟩
    obtain ⟨hB, y1, y2, ⟨y3, y4, y5, y6, y7⟩, y8, y9, o1, o2, o3, o4, o5⟩ := hB
    have b78 : B.1 78 j = nI 20 := (hB.2.1.1.2.1 78 j (by omega)).trans t1
    have n1 : MGo l Gr n w d B j (zi (mBeg B sd p) 73 70 (nI (st + 1))) (j + 1) := mg_s (z := 20) hg hj hM (hB.2.1.1.1.trans cx.2.2.1) (YB_7 hB) b78 (by omega) (by omega) (ms_20 (d := d + 5) hg (by omega) b78 ((hB.2.1.1.2.1 81 j (by omega)).trans t2) y1 hsd (wm_step (st := st) z (by rw [zi_k (by decide), zi_c (by decide)]; exact hB.2.1.2.2.1)))
    have m' : ∀ c k, ¬ (c = 73 ∧ (k = 94 ∨ k = 70)) → ¬ (c = 131 ∧ k = sd) → (zi (mBeg B sd p) 73 70 (nI (st + 1))).1 c k = B.1 c k := fun c k q1 q2 => by rw [zi_get, if_neg (by omega)]; exact mBeg_n (by omega) q2
    have b94 : (zi (mBeg B sd p) 73 70 (nI (st + 1))).1 73 94 = nI (sd + 1) := by rw [zi_k (by decide)]; unfold mBeg; exact zi_v
    have pla : mPla (zi (mBeg B sd p) 73 70 (nI (st + 1))) = nI p := by
      rw [← mBeg_pla (B := B) (p := p) hsd]
      unfold mPla
      rw [zi_k (by decide), zi_c (by decide)]
    have El : MEl B (zi (mBeg B sd p) 73 70 (nI (st + 1))) := ⟨fun k q => m' 73 k (by omega) (by omega), fun c k q => m' c k (by omega) (by omega)⟩
    have vm : VM B (zi (mBeg B sd p) 73 70 (nI (st + 1))) := fun x hx => VC_El El hx
    have km : KBm B (zi (mBeg B sd p) 73 70 (nI (st + 1))) := ⟨fun c k q1 q2 q3 => m' c k (by omega) (by omega), fun _ _ _ => rfl⟩
    have b131 : (zi (mBeg B sd p) 73 70 (nI (st + 1))).1 131 sd = nI p := by rw [zi_c (by decide)]; unfold mBeg; rw [zi_c (by decide)]; exact zi_v
    refine ⟨_, n1, ⟨⟨⟨⟨CCo_K hB.1.1 kb, c5, c7, (kBeg_n (by omega)).trans hB.1.2.2.2.1, c16, c18, (kBeg_n (by omega)).trans hB.1.2.2.2.2.2.2.1, (kBeg_n (by omega)).trans hB.1.2.2.2.2.2.2.2⟩, ⟨MCo_K hB.2.1.1 km, (m' 73 85 (by omega) (by omega)).trans hB.2.1.2.1, by rw [zi_get, if_pos ⟨rfl, rfl⟩], (m' 73 110 (by omega) (by omega)).trans hB.2.1.2.2.2, fun q => absurd q (by omega)⟩, RL_El hB.2.2.1 hB.1.2.2.1 K El ⟨sd + 1, by omega, b94⟩, by rw [c17, pla], by omega, Nat.zero_le _, Nat.zero_le _, ?_⟩, b94, (m' 73 101 (by omega) (by omega)).trans y2, ⟨(m' 73 97 (by omega) (by omega)).trans y3, y4, y5, fun t ht => by rw [m' 133 t (by omega) (by omega), m' 134 t (by omega) (by omega), m' 135 t (by omega) (by omega)]; exact y6 t ht, y7⟩, y8, fun k hk => by rw [kBeg_n (by omega)]; exact y9 k hk, (kBeg_n (by omega)).trans o1, (m' 73 69 (by omega) (by omega)).trans o2, o3, fun t ht => by rw [kBeg_n (by omega)]; exact o4 t ht, fun t ht => ?_⟩, b131⟩, ?_⟩
    · intro e a r z h1 h2 h3 h4 h5
      obtain ⟨k0, k1, k2, k3⟩ := hB.2.2.2.2 e a r z h1 h2 h3 h4 h5
      refine ⟨fun y => ⟨(k0 y).1, fun v hv => ?_⟩, fun y => ⟨(k1 y).1, fun v x hv hx => ?_⟩, k2, fun y => ⟨(k3 y).1, (k3 y).2.1, fun x hx => absurd (k3 y).2.1 (by omega)⟩⟩
      · rw [kBeg_n (by omega), m' 117 _ (by omega) (by omega)]
        exact ⟨((k0 y).2 v hv).1, fun x hx => vm _ (((k0 y).2 v hv).2 x hx)⟩
      · rw [kBeg_n (by omega), m' 132 _ (by omega) (by omega)]
        exact ⟨((k1 y).2 v x hv hx).1, vm _ ((k1 y).2 v x hv hx).2⟩
    · obtain ⟨m, q1, q2, q3, q4⟩ := o5 t ht
      refine ⟨m, q1, (m' 120 t (by omega) (by omega)).trans q2, q3, fun x hx => ?_⟩
      rw [kBeg_n (by omega), m' 121 _ (by omega) (by omega)]
      exact ⟨(q4 x hx).1, vm _ (q4 x hx).2⟩
    · exact ⟨⟨fun k _ => kBeg_n (by omega), fun k _ _ => kBeg_n (by omega), fun _ _ _ => ⟨rfl, rfl⟩⟩, ⟨fun t q => m' 131 t (by omega) (by omega), fun t c _ q2 q3 => m' c t (by omega) (by omega), fun k c _ q2 => m' c k (by omega) (by omega), fun t c _ q2 q3 => m' c t (by omega) (by omega), fun e a _ => ⟨rfl, rfl, m' 143 a (by omega) (by omega)⟩⟩, vm, km⟩
  · have e0 : st = 100000 := by omega
    have ke := kEnd_b (A := kBeg A i p st) (Or.inr (by rw [c18, e0]; decide)) c5
    refine ⟨1, kEnd (kBeg A i p st), g, KBc_tr kb KBc_E, Or.inr ⟨by omega, fun B hB => ?_⟩⟩
    obtain ⟨hB, y1, -⟩ := hB
    have b78 : B.1 78 j = nI 20 := (hB.2.1.1.2.1 78 j (by omega)).trans t1
    have gm : GM (mBeg B sd p) := by
      obtain ⟨⟨g, hg, h66⟩, -⟩ := hB.2.2.1.2.1.1
      exact ⟨⟨g, hg, (mBeg_n (by omega) (by omega)).trans h66⟩, sd + 1, by omega, by unfold mBeg; exact zi_v⟩
    have n1 : MGo l Gr n w d B j (zi (mF (mBeg B sd p) 8 (mPla (mBeg B sd p))) 73 70 (nI 100001)) (j + 1) := mg_s (z := 20) hg hj hM (hB.2.1.1.1.trans cx.2.2.1) (YB_7 hB) b78 (by omega) (by omega) (ms_20 (d := d + 5) hg (by omega) b78 ((hB.2.1.1.2.1 81 j (by omega)).trans t2) y1 hsd (wm_stepX hg gm ((mBeg_n (by omega) (by omega)).trans (YB_7 hB)) ((mBeg_n (by omega) (by omega)).trans (by rw [hB.2.1.2.2.1, e0]))))
    refine ⟨_, _, n1, ⟨fun c k q1 q2 q3 => ?_, fun _ _ _ => rfl⟩, by rw [ke.1]; decide, ?_, ?_⟩
    · unfold mF
      rw [zi_get, if_neg (by omega), zi_get, if_neg (by omega), zi_get, if_neg (by omega)]
      exact mBeg_n (by omega) (by omega)
    · rw [ke.1, zi_k (by decide)]
      exact mF_f.1
    · rw [ke.2, zi_k (by decide), c17]
      exact mF_f.2.trans (mBeg_pla hsd)
theorem y_beg (hg : ip_gk (lg_tbl, vwCl, Gr)) (ho : ip_old (lg_tbl, vwCl, Gr)) (hw1 : 1 ≤ w) (hw : w ≤ 32) (cx : CTX S T N M) (h0 : YB w Av S T i hc st A B0 ∧ YE w Av S vw nv vb vq vt u sd no bo A B0) (s4 : S.1 4 i = 1) (s6 : S.1 6 i = nI p) (t1 : T.1 78 j = 20) (t2 : T.1 81 j = nI p) (hsd : sd < 80) (hi' : i < N) (hj : j < M) (hhc : hc + 1 ≤ 9682) : TRz l Gr n w d (fun st A B => YB w Av S T i hc st A B ∧ YE w Av S vw nv vb vq vt u sd no bo A B) (fun st A B => XS w Av S T 0 0 0 0 0 (i + 1) hc 0 st A B ∧ YE w Av S vw nv vb vq vt u (sd + 1) no bo A B) (SF w Cx Av hc sd u nv vw lo hi) 299 j (j + 1) st A :=
  TRz_w (y_begp hg ho hw1 hw cx h0 s4 s6 t1 t2 hsd hi' hj hhc) (fun _ _ _ h => h.1)
end BEG
