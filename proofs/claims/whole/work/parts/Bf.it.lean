/-! SORTS of ITEMs on both sides: states; input, output, statements -/
/-- between ITEMs: m NAMEs visible, iw words of inputs, P of defs' parameters -/
def LIt (b : Nat → Int32) (t N D m : Nat) (A : Nat → Nat → Prop) (sz mz vw iw P : Nat) (S T : zS) : Prop := LSt b t N D m A 0 0 sz mz 0 0 vw 0 256 S T ∧ T.1 73 59 = nI iw ∧ T.1 73 60 = nI P ∧ P ≤ D
def KIc (S S' : zS) (i i' : Nat) : Prop := (∀ c k, ¬ (c = 3 ∧ (k = 5 ∨ k = 6)) → ¬ ((c = 5 ∨ c = 7) ∧ i ≤ k ∧ k < i') → ¬ (c = 8 ∧ (k = 11 ∨ k = 12)) → ¬ c = 16 → ¬ (c = 39 ∧ (k = 3 ∨ k = 5 ∨ k = 9 ∨ k = 10)) → ¬ (40 ≤ c ∧ c ≤ 44) → S'.1 c k = S.1 c k) ∧ ∀ c k, S'.2 c k = S.2 c k
def KIm (T T' : zS) (j j' : Nat) : Prop := (∀ c k, ¬ (c = 73 ∧ (k = 7 ∨ k = 8 ∨ k = 34 ∨ k = 43 ∨ k = 47 ∨ k = 49 ∨ k = 56 ∨ (59 ≤ k ∧ k ≤ 63))) → ¬ (90 ≤ c ∧ c ≤ 101) → ¬ ((c = 80 ∨ c = 89 ∨ (102 ≤ c ∧ c ≤ 107)) ∧ j ≤ k ∧ k < j') → ¬ (108 ≤ c ∧ c ≤ 110) → T'.1 c k = T.1 c k) ∧ ∀ c k, T'.2 c k = T.2 c k
def aInp (n w D : Nat) (S T : zS) (A A' : Nat → Nat → Prop) (iw iw' i i' j j' : Nat) : Prop := ∃ e r z o, e < D ∧ S.1 11 e = 0 ∧ S.1 12 e = nI r ∧ S.1 13 e = nI z ∧ S.1 14 e = nI iw ∧ r ≤ 1 ∧ z ≤ 64 ∧ o < n ∧ iw' = iw + max 1 z ∧ iw' ≤ 256 ∧ (∀ a, ¬ A e a) ∧ A' = adA A e iw ∧ i' = i + 1 ∧ j' = j + 2 ∧ S.1 4 i = 2 ∧ T.1 78 j = 22 ∧ T.1 78 (j + 1) = 23 ∧ T.1 80 (j + 1) = nI r ∧ T.2 82 (j + 1) = lN (256 * o + z) ∧ ∀ a, iw ≤ a → a < iw' → S.1 18 a = nI o ∧ S.1 19 a = nI (if r = 1 then 1 else w)
def aOut (w D : Nat) (S T : zS) (A : Nat → Nat → Prop) (p i i' j j' : Nat) : Prop := ∃ r i1 j1, r ≤ 1 ∧ aX w D A r S T (i + 1) i1 (j + 1) j1 ∧ i' = i1 + 1 ∧ j' = j1 + 2 ∧ S.1 4 i = 1 ∧ S.1 6 i = nI p ∧ S.1 4 i1 = 13 ∧ S.1 5 i1 = nI r ∧ T.1 78 j = 20 ∧ T.1 81 j = nI p ∧ T.1 78 j1 = 30 ∧ T.1 80 j1 = nI r ∧ T.1 78 (j1 + 1) = 21
def dfA (A : Nat → Nat → Prop) (S : zS) (e k : Nat) : Nat → Nat → Prop := fun d a => (A d a ∧ S.1 11 d = 4) ∨ ∃ c, c < k ∧ d = e + 1 + c ∧ a = c
def aDef (w D : Nat) (S T : zS) (A A' : Nat → Nat → Prop) (i i' j j' : Nat) : Prop := ∃ e r k i1 j1, e + k < D ∧ S.1 11 e = 4 ∧ S.1 12 e = nI r ∧ r ≤ 1 ∧ S.1 13 e = 0 ∧ S.1 14 e = nI (i + 1 + k) ∧ S.1 15 e = nI k ∧ (∀ a, a < k → S.1 11 (e + 1 + a) = 3 ∧ S.1 13 (e + 1 + a) = 0 ∧ S.1 14 (e + 1 + a) = nI a ∧ (∃ ra, ra ≤ 1 ∧ S.1 12 (e + 1 + a) = nI ra) ∧ S.1 4 (i + 1 + a) = 4 ∧ T.1 78 (j + 1 + a) = 27) ∧ aX w D (dfA A S e k) r S T (i + 1 + k) i1 (j + 2 + k) j1 ∧ (∀ a, ¬ A e a) ∧ A' = adA A e j ∧ i' = i1 + 1 ∧ j' = j1 + 1 ∧ S.1 4 i = 3 ∧ S.1 7 i = nI (i1 + 1) ∧ S.1 4 i1 = 5 ∧ T.1 78 j = 26 ∧ T.1 80 j = nI k ∧ T.2 82 j = lN j1 ∧ T.1 78 (j + 1 + k) = 28 ∧ T.1 78 j1 = 29
def aJ (n w D : Nat) (S T : zS) (A A' : Nat → Nat → Prop) (vw vw' iw iw' p i i' j j' : Nat) : Prop := (aT w D S T 0 256 vw vw' A A' p i i' j j' ∧ iw' = iw) ∨ (aInp n w D S T A A' iw iw' i i' j j' ∧ vw' = vw) ∨ (aDef w D S T A A' i i' j j' ∧ iw' = iw ∧ vw' = vw) ∨ (aOut w D S T A p i i' j j' ∧ A' = A ∧ iw' = iw ∧ vw' = vw)
def ITO (l : Launch) (Gr : zG) (n w d : Nat) (b : Nat → Int32) (t N D sz mz vw vw' iw iw' : Nat) (A : Nat → Nat → Prop) (S T : zS) (p i i' j j' : Nat) : Prop := (∃ m' A' P' S' T', CG l Gr n w d S i S' i' ∧ S' = kR b t (i' - i) i S ∧ RG l Gr n w d T j T' j' ∧ LIt b t N D m' A' sz mz vw' iw' P' S' T' ∧ KIc S S' i i' ∧ KIm T T' j j' ∧ aJ n w D S' T' A A' vw vw' iw iw' p i i' j j') ∨ FLT l Gr n w d b t S T i i' j
section ITS
variable {l : Launch} {Gr : zG} {n w : Nat} {d : Nat} {A A' : Nat → Nat → Prop} {b : Nat → Int32} {t N D D' m m5 tp mp sz mz sc u vw vw' iw iw' P lo hi p q i i' i1 i2 i3 j j' j1 j2 j3 x K e a r r' pb z vv p1 s k v : Nat} {S0 T0 S S' S'' T T' T'' : zS}
theorem KIc_s (h : KSc S S' i i' m sc u) : KIc S S' i i' := ⟨fun c k q1 q2 q3 q4 q5 q6 => h.1 c k q1 q2 (fun y => q3 ⟨y.1, Or.inl y.2⟩) (fun y => q4 y.1) q5 (fun y => q6 (by omega)) (fun y => q6 (by omega)) (fun y => q6 (by omega)) (fun y => q6 (by omega)), h.2⟩
theorem KIm_s (h : KSm T T' j j' m sc) : KIm T T' j j' := ⟨fun c k q1 q2 q3 q4 => h.1 c k (fun y => q1 ⟨y.1, by omega⟩) (fun y => q2 (by omega)) (fun y => q2 (by omega)) (fun y => q3 ⟨by omega, y.2⟩) (fun y => q2 (by omega)) (fun y => q4 (by omega)), h.2⟩
theorem m_le (h : EV b t N D m 0 A S T) (hV : VSA S A m vw) : m ≤ D := by
  obtain ⟨⟨-, ht, -, -, hD⟩, ⟨v1, v2, v3, -, v5⟩, -⟩ := h
  refine pig D m (fun v => (S.1 16 v).toNatClampNeg) (fun v hv => ?_) (fun v v' hv hv' e => ?_)
  · obtain ⟨e, he, e16⟩ := v5 v hv
    show (S.1 16 v).toNatClampNeg < D
    rw [e16, nI_clamp (by omega)]
    exact he
  · have e : (S.1 16 v).toNatClampNeg = (S.1 16 v').toNatClampNeg := e
    obtain ⟨e1, he1, f1⟩ := v5 v hv
    obtain ⟨e2, he2, f2⟩ := v5 v' hv'
    rw [f1, f2, nI_clamp (by omega), nI_clamp (by omega)] at e
    exact hV.1.1 v v' hv hv' (by rw [f1, f2, e])
theorem EVv_D (h : EVv b t D A S T v) (hD : D ≤ D') : EVv b t D' A S T v := by
  obtain ⟨dd, sp, y, k, e1, e2, e3, e4, e5, e6, e7, e8, e9, e10, e11, e12, e13, e15, e14⟩ := h
  refine ⟨dd, sp, y, k, by omega, e2, e3, e4, e5, e6, e7, e8, e9, e10, e11, e12, e13, e15, fun hk => ?_⟩
  obtain ⟨a, qq, g1, g2, g3, g4, g5, g6⟩ := e14 hk
  exact ⟨a, qq, g1, g2, g3, g4, by omega, g6⟩
theorem LIt_D (h : LIt b t N D m A sz mz vw iw P S T) (hD : D ≤ D') (hN : NS b t D' S) (h8 : D' ≤ 800) : LIt b t N D' m A sz mz vw iw P S T := by
  obtain ⟨⟨⟨⟨⟨t1, t2, t3, t4, t5⟩, ⟨v1, v2, v3, v4, v5⟩, h34, hO, hNn, hF, hA⟩, hr⟩, h47, hs⟩, h59, h60, hP⟩ := h
  have h5 : ∀ v, v < m → ∃ d, d < D' ∧ S.1 16 v = nI d := fun v hv => by
    obtain ⟨e, he, e16⟩ := v5 v hv
    exact ⟨e, by omega, e16⟩
  refine ⟨⟨⟨⟨⟨t1, t2, t3, hN, h8⟩, ⟨v1, v2, v3, v4, h5⟩, h34, hO, hNn, Or.inl ⟨rfl, h47⟩, fun v hv => ⟨EVv_D (hA v hv).1 hD, (hA v hv).2⟩⟩, hr⟩, h47, hs⟩, h59, h60, by omega⟩
/-- a statement as an ITEM -/
theorem it_st (hg : ip_gk (lg_tbl, vwCl, Gr)) (g : gT w 0 S0 T0 (nid b t T0) D vw vw' p i i' j j') (cs : cgS S0 S i i') (ct : cgU T0 T j j') (hn : nmS S0 S D) (hni : ∀ v p, nid b t T0 v p → nid b t T v p) (h : LIt b t N D m A sz mz vw iw P S T) (hsz : i' ≤ sz) (hmz : j' ≤ mz) (hB : HB S0 i i' 0 0 0) : ITO l Gr n w d b t N D sz mz vw vw' iw iw A S T p i i' j j' := by
  obtain ⟨K, hK, g⟩ := g
  obtain ⟨hS, h59, h60, hP⟩ := h
  rcases st_all (l := l) (Gr := Gr) (n := n) (w := w) (d := d) hg K vw vw' p i i' j j' m A 0 0 0 256 S T g cs ct hn hni hS hsz hmz hB (by omega) with ⟨m', A', lo', hi', S', T', a1, a2, a3, a4, a5, a6, a7, a8, a9, a10⟩ | hF
  · have hb : lo' = 0 ∧ hi' = 256 := by
      rcases a4.2.2.2.2.2.1 with ⟨-, q1, q2⟩ | ⟨u', q1, -⟩
      · exact ⟨q1, q2⟩
      · omega
    obtain ⟨e1, e2⟩ := hb
    subst e1 e2
    exact Or.inl ⟨m', A', P, S', T', a1, a2, a3, ⟨a4, (KSm_73 a6 (by omega)).trans h59, (KSm_73 a6 (by omega)).trans h60, hP⟩, KIc_s a5, KIm_s a6, Or.inl ⟨a10, rfl⟩⟩
  · exact Or.inr hF
/-- input -/
theorem it_in (hg : ip_gk (lg_tbl, vwCl, Gr)) (hn16 : n ≤ 16) (g : sInp n w S0 T0 (nid b t T0) D i i' j j' iw iw') (cs : cgS S0 S i i') (ct : cgU T0 T j j') (hn : nmS S0 S D) (h18 : ∀ c k, c = 18 ∨ c = 19 → S.1 c k = S0.1 c k) (hni : ∀ v p, nid b t T0 v p → nid b t T v p) (h : LIt b t N D m A sz mz vw iw P S T) (hm8 : m < 800) (hsz : i' ≤ sz) (hmz : j' ≤ mz) : ITO l Gr n w d b t N D sz mz vw vw iw iw' A S T p i i' j j' := by
  obtain ⟨e, v, s, r, z, o, he, hv, hdc, hr, hz, ew, hw, ho, e1, e2, f1, f2, f3, g1, g2, g3, g4, g5, g6, g7, hrow⟩ := g
  subst e1 e2
  obtain ⟨s9, s11, s12, s13, s14⟩ := dcl_cong hdc he hn
  obtain ⟨hS, h59, h60, hP⟩ := h
  have hL := hS.1
  have hE := hL.1
  have h5 := hL.2.1.2.2
  have hDD := hE.1.2.2.2.2
  have hm := hE.2.1.2.1
  have hs : s < t := by
    obtain ⟨_, _, _, _, _, _, _, _, y⟩ := hv
    exact y
  have c0 := cs i (by omega) (by omega)
  have t0 := ct.1 j (by omega) (by omega)
  have t1 := ct.1 (j + 1) (by omega) (by omega)
  have gk := g_2 (l := l) (Gr := Gr) (n := n) (w := w) (d := d) (b := b) (t := t) hg (LSt_ci hS (i := i) (by omega)) (c0.1.trans f1) hE.1 hE.2.1 (Nat.le_of_lt hs) (c0.2.2.1.trans f3) hm8
  have r22 := r_22 (l := l) (Gr := Gr) (n := n) (w := w) (d := d) hg (LSt_ri hS (j := j) (by omega)) (t0.1.trans g1) hE.2.2.1 (by omega)
  rcases st_in (b := b) (i := i) (j := j) hS (c0.2.2.1.trans f3) (t0.2.1.trans g2) (t0.2.2.2.1.trans g3) (hni _ _ hv) he s9 with ⟨z1, z2, nv, nA, -⟩ | ⟨z1, z2⟩
  · rw [z1, c0.2.1.trans f2] at gk
    rw [z2] at r22
    have rk := r_23 (l := l) (Gr := Gr) (n := n) (w := w) (d := d) (z := z) hg (LSt_ri hS (j := j + 1) (by omega)) (t1.1.trans g4) hE.2.2.1 (by omega) (by rw [t1.2.2.2.2.trans g7]; exact wi (by omega) hz) hz
    rw [t1.2.1.trans g5, t1.2.2.1.trans g6, h59, nI_add, show (1 : Int32) = nI (0 + 1) from rfl] at rk
    obtain ⟨L, x3, x32, y3, y32⟩ := st_sh (e := e) (x := v) (k := 0) (r := r) (z := z) (a := iw) hS he s9 (hni _ _ hv) (by omega) s11 hr s12 hz s13 (by omega) (fun _ => s14) (fun q => by omega) nv hm8
    obtain ⟨Y, eY⟩ : ∃ Y, Y = mSy T m (nI v) (nI (0 + 1)) (nI r) (nI z) (nI iw) := ⟨_, rfl⟩
    rw [← eY] at rk L y3 y32
    obtain ⟨X, eX⟩ : ∃ X, X = kShow S (nI e) := ⟨_, rfl⟩
    rw [← eX] at gk L x3 x32
    obtain ⟨Z, eZ⟩ : ∃ Z, Z = zi (zi Y 89 (j + 1) (nI iw)) 73 59 (nI (iw + max 1 z)) := ⟨_, rfl⟩
    rw [← eZ] at rk
    have zk : ∀ c k, ¬ (c = 73 ∧ k = 59) → ¬ (c = 89 ∧ k = j + 1) → Z.1 c k = Y.1 c k := fun c k q1 q2 => by rw [eZ, zi_get, if_neg q1, zi_get, if_neg q2]
    have zk2 : ∀ c k, Z.2 c k = Y.2 c k := fun _ _ => by rw [eZ]; rfl
    have LZ : LSt b t N D (m + 1) (adA A e iw) 0 0 sz mz 0 0 vw 0 256 X Z := by
      have hLL := L.1
      exact ⟨⟨⟨hLL.1.1, hLL.1.2.1, (zk 73 34 (by omega) (by omega)).trans hLL.1.2.2.1, ⟨(zk 73 9 (by omega) (by omega)).trans hLL.1.2.2.2.1.1, fun v hv => by rw [zk 76 v (by omega) (by omega), zk 77 v (by omega) (by omega)]; exact hLL.1.2.2.2.1.2.1 v hv, fun v v' a a' q1 q2 q3 q4 q5 q6 q7 => hLL.1.2.2.2.1.2.2 v v' a a' q1 q2 q3 q4 (by rw [← zk 76 v (by omega) (by omega)]; exact q5) (by rw [← zk 76 v' (by omega) (by omega)]; exact q6) q7⟩, hLL.1.2.2.2.2.1, Or.inl ⟨rfl, (zk 73 47 (by omega) (by omega)).trans L.2.1⟩, fun v hv => ⟨EVv_k (hLL.1.2.2.2.2.2.2 v hv).1 (fun _ _ _ => rfl) (fun c k q => zk c k (by omega) (by omega)) (fun _ _ y => y), by rw [zk 95 v (by omega) (by omega)]; exact (hLL.1.2.2.2.2.2.2 v hv).2⟩⟩, hLL.2.1, hLL.2.2.1, ⟨(zk 73 13 (by omega) (by omega)).trans hLL.2.2.2.1.1, hLL.2.2.2.1.2.1, (zk 73 7 (by omega) (by omega)).trans hLL.2.2.2.1.2.2⟩, (zk 73 43 (by omega) (by omega)).trans hLL.2.2.2.2.1, (zk 73 56 (by omega) (by omega)).trans hLL.2.2.2.2.2⟩, (zk 73 47 (by omega) (by omega)).trans L.2.1, ⟨L.2.2.1.1, (zk 73 49 (by omega) (by omega)).trans L.2.2.1.2⟩, L.2.2.2⟩
    have kc : KIc S X i (i + 1) := ⟨fun c k q1 q2 q3 q4 q5 q6 => x3 c k (fun y => q3 ⟨y.1, Or.inl y.2⟩) (fun y => q4 y.1), x32⟩
    have km : KIm T Z j (j + 2) := ⟨fun c k q1 q2 q3 q4 => (zk c k (fun y => q1 ⟨y.1, by omega⟩) (fun y => q3 ⟨Or.inr (Or.inl y.1), by omega⟩)).trans (y3 c k (fun y => q1 ⟨y.1, by omega⟩) (fun y => q2 (by omega))), fun c k => (zk2 c k).trans (y32 c k)⟩
    refine Or.inl ⟨m + 1, adA A e iw, P, X, Z, gk.2, ?_, RG_tr r22 rk, ⟨LZ, by rw [eZ, ew]; exact zi_v, (zk 73 60 (by omega) (by omega)).trans ((y3 73 60 (by omega) (by omega)).trans h60), hP⟩, kc, km, Or.inr (Or.inl ⟨⟨e, r, z, o, he, (x3 11 e (by omega) (by omega)).trans s11, (x3 12 e (by omega) (by omega)).trans s12, (x3 13 e (by omega) (by omega)).trans s13, (x3 14 e (by omega) (by omega)).trans s14, hr, hz, ho, ew, hw, nA, rfl, rfl, rfl, (x3 4 i (by omega) (by omega)).trans (c0.1.trans f1), (km.1 78 j (by omega) (by omega) (by omega) (by omega)).trans (t0.1.trans g1), (km.1 78 (j + 1) (by omega) (by omega) (by omega) (by omega)).trans (t1.1.trans g4), ?_, (km.2 82 (j + 1)).trans (t1.2.2.2.2.trans g7), fun a q1 q2 => ?_⟩, rfl⟩)⟩
    · rw [← gk.1]
      exact k_1 h5 rfl
    · exact (zk 80 (j + 1) (by omega) (by omega)).trans ((y3 80 (j + 1) (by omega) (by omega)).trans (t1.2.2.1.trans g6))
    · have := hrow a q1 q2
      rw [x3 18 a (by omega) (by omega), x3 19 a (by omega) (by omega), h18 18 a (Or.inl rfl), h18 19 a (Or.inr rfl)]
      exact this
  · right
    have uu := kT_0 (g := 4) (pl := nI s) h5
    rw [z1] at gk
    rw [z2] at r22
    have c8 : ∀ Y : zS, ∀ f, (kShow Y f).1 3 5 = Y.1 3 5 ∧ (kShow Y f).1 3 6 = Y.1 3 6 := fun Y f => by
      unfold kShow
      exact ⟨by rw [zi_c (by decide), zi_c (by decide)], by rw [zi_c (by decide), zi_c (by decide)]⟩
    exact FLT_1 (g := 4) (pl := nI s) h5 (by decide) (Nat.le_refl _) gk.1 gk.2 ((c8 _ _).1.trans uu.1) ((c8 _ _).2.trans uu.2) r22 mF_f.1 mF_f.2
/-- output EXPR ; -/
theorem it_out (hg : ip_gk (lg_tbl, vwCl, Gr)) (g : sOut w S0 T0 (nid b t T0) p i i' j j') (cs : cgS S0 S i i') (ct : cgU T0 T j j') (hni : ∀ v p, nid b t T0 v p → nid b t T v p) (h : LIt b t N D m A sz mz vw iw P S T) (hsz : i' ≤ sz) (hmz : j' ≤ mz) (hB : HB S0 i i' 0 0 0) : ITO l Gr n w d b t N D sz mz vw vw iw iw A S T p i i' j j' := by
  obtain ⟨pe, i1, j1, gx, e1, e2, f1, f2, f3, f4, g1, g2, g3, g4⟩ := g
  subst e1 e2
  have bx := gX_bnd gx
  obtain ⟨hS, h59, h60, hP⟩ := h
  have hL := hS.1
  have h5 := hL.2.1.2.2
  have hs4 := hL.2.1.2.1
  have hm4 := hL.2.2.2.1.2.1
  have c0 := cs i (by omega) (by omega)
  have c1 := cs i1 (by omega) (by omega)
  have t0 := ct.1 j (by omega) (by omega)
  have t1 := ct.1 j1 (by omega) (by omega)
  have t2 := ct.1 (j1 + 1) (by omega) (by omega)
  have gs := g_step (l := l) (Gr := Gr) (n := n) (w := w) (d := d) (b := b) (t := t) (LSt_ci hS (i := i) (by omega)) (c0.1.trans f1) hg
  have r0 := r_20 (l := l) (Gr := Gr) (n := n) (w := w) (d := d) hg (LSt_ri hS (j := j) (by omega)) (t0.1.trans g1)
  have k0 := k_1 h5 gs.1
  have nE := NE_1 (S := S0) (e1 := 0) (e2 := 0) f1 (by decide) (by decide) (by decide)
  rcases st_x (l := l) (Gr := Gr) (n := n) (w := w) (d := d) hg gx (cgS_sub cs (by omega) (by omega)) (cgT_sub ct.1 (by omega) (by omega)) hni hS (by omega) (by omega) (HB_le hB nE (by omega) (by omega) (by omega)) with ⟨S1, T1, r', pb, a1, a2, a3, a4, a5, a6, hr', hpb, b1, b2', b3', b4, b5, -⟩ | hF
  · have kk1 := kR_cat k0 a2 (by omega) (by omega)
    have l3 := a4.1.2.2.1
    have gk := g_13 (l := l) (Gr := Gr) (n := n) (w := w) (d := d) (b := b) (t := t) hg (LSt_ci a4 (i := i1) (by omega)) ((KKc_C a5 (Or.inl rfl)).trans (c1.1.trans f3)) l3 (by omega)
    rw [kTop_t l3 (by omega), b1, (pt_1 hr' hpb).1] at gk
    have rk := r_30 (l := l) (Gr := Gr) (n := n) (w := w) (d := d) (m := 0) hg (LSt_ri a4 (j := j1) (by omega)) ((KKm_C a6 (by omega)).trans (t1.1.trans g3)) a4.1.2.2.2.2.1 (by omega)
    rw [b2'] at rk
    obtain ⟨X, eX⟩ : ∃ X, X = zi (kPop S1) 5 i1 (nI r') := ⟨_, rfl⟩
    rw [← eX] at gk
    obtain ⟨Z, eZ⟩ : ∃ Z, Z = zi (zi T1 80 j1 (nI r')) 73 43 (nI 0) := ⟨_, rfl⟩
    rw [← eZ] at rk
    have xk : ∀ c k, ¬ (c = 39 ∧ k = 3) → ¬ (c = 5 ∧ k = i1) → X.1 c k = S1.1 c k := fun c k q1 q2 => by
      rw [eX, zi_get, if_neg q2]
      exact kPop_c q1
    have xk2 : ∀ c k, X.2 c k = S1.2 c k := fun _ _ => by rw [eX]; rfl
    have zk : ∀ c k, ¬ (c = 73 ∧ k = 43) → ¬ (c = 80 ∧ k = j1) → Z.1 c k = T1.1 c k := fun c k q1 q2 => by rw [eZ, zi_get, if_neg q1, zi_get, if_neg q2]
    have zk2 : ∀ c k, Z.2 c k = T1.2 c k := fun _ _ => by rw [eZ]; rfl
    have kc : KSc S1 X i1 (i1 + 1) m 0 0 := ⟨fun c k q1 q2 q3 q4 q5 q6 q7 q8 q9 => xk c k (fun y => q5 ⟨y.1, Or.inl y.2⟩) (fun y => q2 ⟨Or.inl y.1, by omega⟩), xk2⟩
    have km : KSm T1 Z j1 (j1 + 1) m 0 := ⟨fun c k q1 q2 q3 q4 q5 q6 => zk c k (fun y => q1 ⟨y.1, by omega⟩) (fun y => q4 ⟨Or.inl y.1, by omega⟩), zk2⟩
    have LZ : LSt b t N D m A 0 0 sz mz 0 0 vw 0 256 X Z := LSt_s a4 kc km ((xk 8 11 (by omega) (by omega)).trans a4.1.1.2.1.1) ((zk 73 34 (by omega) (by omega)).trans a4.1.1.2.2.1) ((xk 3 5 (by omega) (by omega)).trans a4.1.2.1.2.2) (by rw [eX, zi_c (by decide)]; exact kPop_3 l3) ((zk 73 7 (by omega) (by omega)).trans a4.1.2.2.2.1.2.2) (by rw [eZ]; exact zi_v) ((zk 73 56 (by omega) (by omega)).trans a4.1.2.2.2.2.2) ((xk 39 5 (by omega) (by omega)).trans a4.2.2.1.1) ((zk 73 49 (by omega) (by omega)).trans a4.2.2.1.2) ((xk 39 9 (by omega) (by omega)).trans a4.2.2.2.1.1) ((xk 39 10 (by omega) (by omega)).trans a4.2.2.2.2.1.1) ⟨Nat.le_refl _, hS.2.2.2.2.1.2⟩ (Or.inl ⟨rfl, rfl, rfl⟩)
    have r21 := r_21 (l := l) (Gr := Gr) (n := n) (w := w) (d := d) hg (LSt_ri LZ (j := j1 + 1) (by omega)) ((zk 78 (j1 + 1) (by omega) (by omega)).trans ((KKm_C a6 (by omega)).trans (t2.1.trans g4)))
    have KC : KSc S X i (i1 + 1) m 0 0 := KSc_tr (KSc_x a5 (i := i) (i' := i1) (by omega) (Nat.le_refl _)) kc (by omega) (by omega) (Nat.le_refl _) (Nat.le_refl _) (Nat.le_refl _)
    have KM : KSm T Z j (j1 + 2) m 0 := KSm_tr (KSm_x a6 (j := j) (j' := j1) (by omega) (Nat.le_refl _)) (KSm_w km (j := j) (j' := j1 + 2) (by omega) (by omega) (Nat.le_refl _) (Nat.le_refl _)) (by omega) (Nat.le_refl _) (Nat.le_refl _) (Nat.le_refl _)
    refine Or.inl ⟨m, A, P, X, Z, CG_tr gs.2 (CG_tr a1 gk.2), ?_, RG_tr r0 (RG_tr a3 (RG_tr rk r21)), ⟨LZ, (KSm_73 KM (by omega)).trans h59, (KSm_73 KM (by omega)).trans h60, hP⟩, KIc_s KC, KIm_s KM, Or.inr (Or.inr (Or.inr ⟨⟨r', i1, j1, hr', aX_k b5 (anS_s kc (Or.inl (Nat.le_refl _))) (anU_T (anU_s km (Or.inl (Nat.le_refl _)))), rfl, rfl, (KSc_C KC (Or.inl rfl)).trans (c0.1.trans f1), (KSc_C KC (Or.inr rfl)).trans (c0.2.2.1.trans f2), (KSc_C KC (Or.inl rfl)).trans (c1.1.trans f3), by rw [eX]; exact zi_v, (KSm_C KM (by omega)).trans (t0.1.trans g1), (KSm_C KM (by omega)).trans (t0.2.2.2.1.trans g2), (KSm_C KM (by omega)).trans (t1.1.trans g3), by rw [eZ, zi_c (by decide)]; exact zi_v, (KSm_C KM (by omega)).trans (t2.1.trans g4)⟩, rfl, rfl, rfl⟩))⟩
    rw [← gk.1]
    exact kR_s kk1 a4.1.2.1.2.2 (by omega)
  · exact Or.inr (FLT_pre gs.2 k0 r0 (by omega) (FLT_up hF (by omega)))
end ITS
