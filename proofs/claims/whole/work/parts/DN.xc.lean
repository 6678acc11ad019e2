/-! BUILD on both sides: a call -/
section XCA
variable {l : Launch} {Gr : zG} {n w : Nat} {d : Nat} {Av Av' : Nat → Nat → Prop} {S S' T A A' A1 A2 B B' B0 B1 B2 : zS} {cf rf cd hb hrb i i' hc hr st r ex i1 ib ib' j j' j1 jb' N M z e D a m o v q : Nat} {os : List Nat} {x x1 f pl : Int32}
/-- the store of the class behind the call -/
def kCal (A : zS) (cd i1 ib hw : Nat) : zS := zi (zi (zi (zi (zi (zi A 45 16 (nI (i1 + 1))) 46 cd (nI (i1 + 1))) 47 cd (A.1 45 13)) 45 12 (nI (cd + 1))) 45 13 (nI hw)) 45 16 (nI ib)
def mCal (B : zS) (cd hr j1 : Nat) : zS := zi (zi (zi B 144 cd (nI hr)) 145 cd (nI (j1 + 1))) 73 110 (nI (cd + 1))
theorem kCal_n {hw c k : Nat} (h1 : ¬ (c = 45 ∧ (k = 12 ∨ k = 13 ∨ k = 16))) (h2 : ¬ ((c = 46 ∨ c = 47) ∧ k = cd)) : (kCal A cd i1 ib hw).1 c k = A.1 c k := by
  unfold kCal
  rw [zi_get, if_neg (by omega), zi_get, if_neg (by omega), zi_get, if_neg (by omega), zi_get, if_neg (by omega), zi_get, if_neg (by omega), zi_get, if_neg (by omega)]
theorem mCal_n {c k : Nat} (h1 : ¬ (c = 73 ∧ k = 110)) (h2 : ¬ ((c = 144 ∨ c = 145) ∧ k = cd)) : (mCal B cd hr j1).1 c k = B.1 c k := by
  unfold mCal
  rw [zi_get, if_neg (by omega), zi_get, if_neg (by omega), zi_get, if_neg (by omega)]
theorem XS_cal (hw1 : 1 ≤ w) (hw : w ≤ 32) (h : XS w Av S T cf rf cd hb hrb i1 (hc + os.length) (hr + os.length) st A B) (oa : OAs w os hc hr A B) (hA : ∀ e' a', Av' e' a' → S.1 11 e' = 4 ∨ ∃ c, c < os.length ∧ e' = e + 1 + c ∧ a' = c) (hps : ∀ c, c < os.length → S.1 11 (e + 1 + c) = 3 ∧ S.1 12 (e + 1 + c) = nI (os.getD c 0) ∧ os.getD c 0 ≤ 1) : XS w Av' S T (hc * w) hr (cd + 1) (hc + os.length) (hr + os.length) ib (hc + os.length) (hr + os.length) st (kCal A cd i1 ib (hc * w)) (mCal B cd hr j1) := by
  obtain ⟨⟨a1, a2, a3, a4, a5, a6, a7, a8⟩, ⟨b1, b2, b3, b4, b5⟩, hRL, hp, hst, hh, hh2, hE⟩ := h
  have K : KEc A (kCal A cd i1 ib (hc * w)) := ⟨fun k q1 q2 => kCal_n (by omega) (by omega), fun c k q1 q2 => kCal_n (by omega) (by omega)⟩
  have Mm : MEc B (mCal B cd hr j1) := ⟨fun k q => mCal_n (by omega) (by omega), fun c k q => mCal_n (by omega) (by omega)⟩
  refine ⟨⟨⟨(kCal_n (by omega) (by omega)).trans a1.1, fun c k q => (kCal_n (by omega) (by omega)).trans (a1.2 c k q)⟩, (kCal_n (by omega) (by omega)).trans a2, (kCal_n (by omega) (by omega)).trans a3, (kCal_n (by omega) (by omega)).trans a4, by unfold kCal; exact zi_v, (kCal_n (by omega) (by omega)).trans a6, by unfold kCal; rw [zi_k (by decide)]; exact zi_v, by unfold kCal; rw [zi_k (by decide), zi_k (by decide)]; exact zi_v⟩, ⟨⟨(mCal_n (by omega) (by omega)).trans b1.1, fun c k q => (mCal_n (by omega) (by omega)).trans (b1.2.1 c k q), b1.2.2⟩, (mCal_n (by omega) (by omega)).trans b2, (mCal_n (by omega) (by omega)).trans b3, by unfold mCal; exact zi_v, fun _ => by unfold mCal; rw [zi_c (by decide), zi_c (by decide)]; exact zi_v⟩, RL_E hRL K Mm, ?_, hst, Nat.le_refl _, Nat.le_refl _, ?_⟩
  · rw [MEc_pla Mm, kCal_n (by omega) (by omega)]
    exact hp
  · intro e' a' r z h1 h2 h3 h4 h5
    rcases hA e' a' h1 with y | ⟨c, hc', y1, y2⟩
    · refine ⟨fun q => ?_, fun q => ?_, fun q => ?_, fun q => ?_⟩
      · rw [y] at q; exact absurd q (by decide)
      · rw [y] at q; exact absurd q (by decide)
      · rw [y] at q; exact absurd q (by decide)
      · rw [y] at q; exact absurd q (by decide)
    · obtain ⟨p1, p2, p3⟩ := hps c hc'
      rw [← y1] at p1 p2
      have er : r = os.getD c 0 := (nI_eq (by omega) (by omega)).mp (h4.symm.trans p2)
      refine ⟨fun q => ?_, fun q => ?_, fun q => ?_, fun _ => ?_⟩
      · rw [p1] at q; exact absurd q (by decide)
      · rw [p1] at q; exact absurd q (by decide)
      · rw [p1] at q; exact absurd q (by decide)
      · have m1 : (hc + c) * w = hc * w + c * w := Nat.add_mul _ _ _
        have m2 : (hc + c) * w + w ≤ (hc + os.length) * w := by rw [← Nat.succ_mul]; exact Nat.mul_le_mul_right _ (by omega)
        subst y2
        refine ⟨by omega, by omega, fun x hx => ?_⟩
        have := oa a' hc' x (by rw [← er]; exact hx)
        rw [kCal_n (by omega) (by omega), mCal_n (by omega) (by omega), ← m1]
        exact ⟨this.1, VC_ME Mm this.2⟩
theorem lx_cal (hg : ip_gk (lg_tbl, vwCl, Gr)) (ho : ip_old (lg_tbl, vwCl, Gr)) (hw1 : 1 ≤ w) (hw : w ≤ 32) (cx : CTX S T N M) (hD : D ≤ 800) (h0 : XS w Av S T cf rf cd hb hrb i hc hr st A B0) (h1 : TRu l Gr n w d Av S T cf rf cd hb hrb os ex i i1 j j1 hc hr st A) (hex : 32 ≤ ex) (he : e < D) (ha : a < 12000) (t103 : T.1 103 j1 = nI a) (hA : ∀ e' a', Av' e' a' → S.1 11 e' = 4 ∨ ∃ c, c < os.length ∧ e' = e + 1 + c ∧ a' = c) (hps : ∀ c, c < os.length → S.1 11 (e + 1 + c) = 3 ∧ S.1 12 (e + 1 + c) = nI (os.getD c 0) ∧ os.getD c 0 ≤ 1) (s15 : S.1 15 e = nI os.length) (s14 : S.1 14 e = nI ib) (s5 : S.1 5 i = nI e) (u4 : S.1 4 i1 = 30) (u5 : S.1 5 i1 = nI i) (t1 : T.1 78 j1 = 9) (t80 : T.1 80 a = nI os.length) (v4 : S.1 4 ib' = 5) (t2 : T.1 78 jb' = 29) (hub : ur S ib' ≤ 30) (hii : i < i1) (hi : i1 < N) (hj : j1 < M) (hib : ib' < N) (hjb : jb' < M) (hcd : cd < 285) (hhc : hc + os.length + 2 ≤ 9682) (hhr : hr + os.length < 4200) (hbody : ∀ A' B' st', st ≤ st' → XS w Av' S T (hc * w) hr (cd + 1) (hc + os.length) (hr + os.length) ib (hc + os.length) (hr + os.length) st' A' B' → TRx l Gr n w d Av' S T (hc * w) hr (cd + 1) (hc + os.length) (hr + os.length) r ib ib' (a + os.length + 2) jb' (hc + os.length) (hr + os.length) st' A') : TRx l Gr n w d Av S T cf rf cd hb hrb r i (i1 + 1) j (j1 + 1) hc hr st A := by
  have hN := cx.2.1
  have hM := cx.2.2.2
  obtain ⟨k1, A1, g1, kb1, ⟨st1, s1, b1, m1⟩ | ⟨b1, m1⟩⟩ := h1
  rotate_left
  · exact ⟨k1, A1, g1, kb1, Or.inr ⟨b1, m1⟩⟩
  have b1 : k1 + 69 * os.length + ex ≤ 120 * (st1 - st) := b1
  obtain ⟨B01, -, -, -, -, x01, o01⟩ := m1 B0 h0
  have hst1 := x01.2.2.2.2.1
  have hh := h0.2.2.2.2.2.1
  have hh2 := h0.2.2.2.2.2.2.1
  -- the call
  have cA : ∀ c u, (4 ≤ c ∧ c ≤ 7) ∨ (11 ≤ c ∧ c ≤ 15) → (zi A1 45 16 (nI (i1 + 1))).1 c u = S.1 c u := fun c u h => by rw [zi_c (by omega)]; exact x01.1.1.2 c u (by omega)
  have run1 : zMv l Gr (zc n w) 168 M_Builder_buildFactor (d + 11) [.ref 77, .int (nI i1), .int (nI 30)] (zi A1 45 16 (nI (i1 + 1))) (fun X => X = kCal A1 cd i1 ib (hc * w)) := zMv_imp (w_fac30 (d := d + 4) (i := i) (e := e) (cd := cd) (m := os.length) (h := hc) hg hw (by omega) (by omega) (by omega) ((cA 5 i1 (by omega)).trans u5) ((cA 5 i (by omega)).trans s5) (by rw [zi_k (by decide)]; exact x01.1.2.2.2.2.2.2.2) hcd ((cA 15 e (by omega)).trans s15) (by rw [zi_k (by decide)]; exact x01.1.2.2.2.1) (by omega)) (fun X h => by
    rw [h, cA 14 e (by omega), s14, zi_get, if_pos ⟨rfl, rfl⟩, zi_k (by decide)]
    rfl)
  have gc := ck_1 (z := 30) (e := 0) hg ho hw cx x01 hi u4 (by omega) rfl (by omega) (by omega) (kg_F (l := l) (n := n) (d := d) hg (by omega) (by omega) run1)
  rw [kEnd_g (st := st1) ((kCal_n (by omega) (by omega)).trans x01.1.2.2.1) ((kCal_n (by omega) (by omega)).trans x01.1.2.2.2.2.2.1) hst1] at gc
  have kbc : KBc A1 (kCal A1 cd i1 ib (hc * w)) := ⟨fun c k q1 q2 q3 => kCal_n (by omega) (by omega), fun _ _ _ => rfl⟩
  have mcal : ∀ B1, XS w Av S T cf rf cd hb hrb i1 (hc + os.length) (hr + os.length) st1 A1 B1 → MGo l Gr n w d B1 j1 (mCal B1 cd hr j1) (a + os.length + 2) := fun B1 x1 =>
    mg_o (z := 9) hg hj hM (x1.2.1.1.1.trans cx.2.2.1) (XS_7 x1) ((x1.2.1.1.2.1 78 j1 (by omega)).trans t1) (by omega) (mo_9 (d := d + 5) (a := a) (m := os.length) (q := hr) (cd := cd) (by omega) ha ((x1.2.1.1.2.1 78 j1 (by omega)).trans t1) ((x1.2.1.1.2.1 103 j1 (by omega)).trans t103) ((x1.2.1.1.2.1 80 a (by omega)).trans t80) x1.2.1.2.2.2.1 (by omega) x1.2.1.2.1 hg)
  have xc := fun B1 (x1 : XS w Av S T cf rf cd hb hrb i1 (hc + os.length) (hr + os.length) st1 A1 B1) (o1 : OAs w os hc hr A1 B1) => XS_cal (e := e) (ib := ib) (j1 := j1) hw1 hw x1 o1 hA hps
  obtain ⟨k2, A3, g3, kb3, ⟨st2, s2, b2, m2⟩ | ⟨b2, m2⟩⟩ := hbody _ _ st1 s1 (xc B01 x01 o01)
  rotate_left
  · refine ⟨k1 + (1 + k2), A3, CGo_tr g1 (CGo_tr gc g3), KBc_tr kb1 (KBc_tr kbc kb3), Or.inr ⟨by omega, fun B hB => ?_⟩⟩
    obtain ⟨B1, n1, f1, e1, v1, x1, o1⟩ := m1 B hB
    obtain ⟨B3, j3, n3, kb, fb⟩ := m2 _ (xc B1 x1 o1)
    refine ⟨B3, j3, MGo_tr n1 (MGo_tr (mcal B1 x1) n3), KBm_tr (KBm_F e1) (KBm_tr ⟨fun c k q1 q2 q3 => mCal_n (by omega) (by omega), fun _ _ _ => rfl⟩ kb), fb⟩
  have b2 : k2 + 100 ≤ 120 * (st2 - st1) + ur S ib' := b2
  obtain ⟨B03, -, f3, -, -, x03, -⟩ := m2 _ (xc B01 x01 o01)
  have hst2 := x03.2.2.2.2.1
  -- back
  have c46 : ∀ c, c = 46 ∨ c = 47 → A3.1 c cd = (kCal A1 cd i1 ib (hc * w)).1 c cd := fun c h => f3.1 c cd (by omega) (by omega) (by unfold PXc; omega)
  obtain ⟨A4, ⟨K4, F4, e8, e12, e13, e16, e57⟩, run4⟩ := zMv_det (w_st5 (l := l) (n := n) (d := d + 4) (A := zi A3 45 16 (nI (ib' + 1))) (j := ib') (cd := cd) (h := hc) (p := hc + os.length) (ir := i1 + 1) (cf := cf) hg hw (by omega) (by rw [zi_k (by decide)]; exact x03.1.2.2.2.2.2.2.2) hcd (by rw [zi_k (by decide)]; exact x03.1.2.2.2.2.2.2.1) (by rw [zi_k (by decide)]; exact x03.1.2.2.2.1) (by omega) (by omega) (by
    rw [zi_c (by decide), c46 46 (Or.inl rfl)]
    unfold kCal
    rw [zi_c (by decide), zi_c (by decide), zi_c (by decide), zi_c (by decide)]
    exact zi_v) (by
    rw [zi_c (by decide), c46 47 (Or.inr rfl)]
    unfold kCal
    rw [zi_c (by decide), zi_c (by decide), zi_c (by decide), zi_get, if_pos ⟨rfl, rfl⟩]
    exact x01.1.2.2.2.2.2.2.1))
  have g4 := ck_1 (A1 := A4) (z := 5) (e := 1) hg ho hw cx x03 hib v4 (by omega) rfl (by show 1 ≤ hc + os.length + 1; omega) (by show hc + os.length + 1 + 1 ≤ _; omega) (kg_S (l := l) (n := n) (d := d) hg (by omega) run4)
  have p7 : A4.1 24 7 = 0 := by rw [K4.1 7 (by omega) (by omega), zi_c (by decide)]; exact x03.1.2.2.1
  have p18 : A4.1 45 18 = nI st2 := by rw [F4.1 45 18 (by omega) (by omega) (by omega), zi_k (by decide)]; exact x03.1.2.2.2.2.2.1
  rw [kEnd_g (st := st2) p7 p18 hst2] at g4
  have ml : hc * w ≤ (hc + os.length) * w := Nat.mul_le_mul_right _ (by omega)
  have fA : FK (PXc w hc cd) A1 A4 := by
    refine ⟨fun c k q1 q2 q3 => ?_, fun c k => by rw [F4.2 c k]; show A3.2 c k = _; rw [f3.2 c k]; rfl⟩
    unfold PXc at q3
    by_cases z12 : c = 45 ∧ k = 12
    · rw [z12.1, z12.2, e12]
      exact x01.1.2.2.2.2.2.2.2.symm
    · by_cases z13 : c = 45 ∧ k = 13
      · rw [z13.1, z13.2, e13]
        exact x01.1.2.2.2.2.2.2.1.symm
      · rw [F4.1 c k (by omega) (by omega) (by omega), zi_get, if_neg (by omega), f3.1 c k (by omega) (by omega) (by unfold PXc; omega), kCal_n (by omega) (by omega)]
  refine ⟨k1 + (1 + (k2 + 1)), A4, CGo_tr g1 (CGo_tr gc (CGo_tr g3 g4)), KBc_tr kb1 (KBc_F fA), Or.inl ⟨st2, by omega, ?_, fun B hB => ?_⟩⟩
  · show k1 + (1 + (k2 + 1)) + 100 ≤ _
    omega
  · obtain ⟨B1, n1, f1, e1, v1, x1, o1⟩ := m1 B hB
    obtain ⟨B3, n3, -, e3, v3, x3, o3⟩ := m2 _ (xc B1 x1 o1)
    have M1 : MEc B1 (mCal B1 cd hr j1) := ⟨fun k q => mCal_n (by omega) (by omega), fun c k q => mCal_n (by omega) (by omega)⟩
    have c144 : ∀ c, c = 144 ∨ c = 145 → B3.1 c cd = (mCal B1 cd hr j1).1 c cd := fun c h => e3.1 c cd (by omega) (by omega) (by unfold PXm; omega)
    obtain ⟨u, B4, ⟨eu, M4, G4, h85, h110, h122⟩, r4⟩ := zMi_det (ms_29 (l := l) (Gr := Gr) (n := n) (w := w) (d := d + 5) (B := B3) (j := jb') (cd := cd) (q := hr) (p := hr + os.length) (jr := j1 + 1) (by omega) ((x3.2.1.1.2.1 78 jb' (by omega)).trans t2) x3.2.1.2.2.2.1 (by omega) (by
      rw [c144 144 (Or.inl rfl)]
      unfold mCal
      rw [zi_c (by decide), zi_c (by decide)]
      exact zi_v) (by
      rw [c144 145 (Or.inr rfl)]
      unfold mCal
      rw [zi_c (by decide)]
      exact zi_v) x3.2.1.2.1 (by omega) hhr)
    subst eu
    have n4 : MGo l Gr n w d B3 jb' B4 (j1 + 1) := mg_s (z := 29) hg hjb hM (x3.2.1.1.1.trans cx.2.2.1) (XS_7 x3) ((x3.2.1.1.2.1 78 jb' (by omega)).trans t2) (by omega) (by omega) r4
    have e14 : FM (PXm hr cd) B1 B4 := by
      refine ⟨fun c k q1 q2 q3 => ?_, fun c k => by rw [G4.2 c k, e3.2 c k]; rfl⟩
      unfold PXm at q3
      by_cases z110 : c = 73 ∧ k = 110
      · rw [z110.1, z110.2, h110]
        exact x1.2.1.2.2.2.1.symm
      · rw [G4.1 c k (by omega) (by omega) (by omega), e3.1 c k (by omega) (by omega) (by unfold PXm; omega), mCal_n (by omega) (by omega)]
    have v14 : VM B1 B4 := fun x hx => VC_ME M4 (v3 x (VC_ME M1 hx))
    have hR : RL A4 B4 := RL_E x3.2.2.1 (KEc_tr KEc_16 K4) M4
    refine ⟨B4, MGo_tr n1 (MGo_tr (mcal B1 x1) (MGo_tr n3 n4)), FX_tr f1 fA (Nat.le_refl _), FXm_tr e1 e14 (Nat.le_refl _), VM_tr v1 v14, XS_k hw1 hw x1 fA e14 v14 hh hh2 hR p7 e8 e16 p18 h85 ?_ hst2 (by show hb ≤ hc + 1; omega) (by show hrb ≤ hr + 1; omega), fun t ht => ?_⟩
    · rw [G4.1 73 70 (by omega) (by omega) (by omega)]
      exact x3.2.1.2.2.1
    · have : t = 0 := by
        have : t < 1 := ht
        omega
      subst this
      intro x hx
      have hx : x < bw w r := hx
      have bl := bw_le (w := w) (r := r) hw1
      have oo := o3 0 (Nat.succ_pos _) x hx
      show A4.1 57 (hc * w + x) = B4.1 122 (32 * hr + x) ∧ VC B4 (B4.1 122 (32 * hr + x))
      rw [e57 x (by omega), h122 x (by omega), zi_c (by decide)]
      exact ⟨oo.1, VC_ME M4 oo.2⟩
end XCA
