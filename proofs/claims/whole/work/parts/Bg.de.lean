/-! SORTS of ITEMs on both sides: def, its parameters -/
def DPS (b : Nat → Int32) (t m e P j a : Nat) (S T Sa Ta : zS) : Prop := (Sa.1 8 11 = nI (m + a) ∧ Sa.1 8 12 = nI m ∧ (∀ c, c < a → Sa.1 16 (m + c) = nI (e + 1 + c)) ∧ (∀ c k, ¬ (c = 8 ∧ (k = 11 ∨ k = 12)) → ¬ (c = 16 ∧ m ≤ k) → Sa.1 c k = S.1 c k) ∧ ∀ c k, Sa.2 c k = S.2 c k) ∧ (Ta.1 73 34 = nI (m + a) ∧ Ta.1 73 60 = nI (P + a) ∧ Ta.1 73 61 = nI P ∧ Ta.1 73 62 = nI m ∧ Ta.1 73 63 = nI j ∧ (∀ c k, ¬ (c = 73 ∧ (k = 34 ∨ (60 ≤ k ∧ k ≤ 63))) → ¬ ((90 ≤ c ∧ c ≤ 95) ∧ m ≤ k) → ¬ (c = 110 ∧ P ≤ k) → Ta.1 c k = T.1 c k) ∧ ∀ c k, Ta.2 c k = T.2 c k) ∧ ∀ c, c < a → ∃ x s r, r ≤ 1 ∧ nid b t T x s ∧ S.1 9 (e + 1 + c) = nI s ∧ S.1 12 (e + 1 + c) = nI r ∧ Ta.1 90 (m + c) = nI x ∧ Ta.1 91 (m + c) = 4 ∧ Ta.1 92 (m + c) = nI r ∧ Ta.1 93 (m + c) = 0 ∧ Ta.1 94 (m + c) = nI c ∧ Ta.1 110 (P + c) = nI r
section ITD
variable {l : Launch} {Gr : zG} {n w : Nat} {d : Nat} {A A' : Nat → Nat → Prop} {b : Nat → Int32} {t N D D' m m5 tp mp sz mz sc u vw vw' iw iw' P lo hi p q i i' i1 i2 i3 j j' jj j1 j2 j3 x K e a r r' pb z vv p1 s k v : Nat} {S0 T0 S S' S'' Sa T T' T'' Ta : zS}
theorem kf_iff (hm : m ≤ 800) (h16 : ∀ v, v < m → ∃ e, e < 800 ∧ S.1 16 v = nI e) : ∀ v, v ≤ m → (kf b t S p v = -1 ↔ ∀ u, u < v → ¬ ((S.1 8 12 ≤ nI u ∨ S.1 11 (S.1 16 u).toNatClampNeg = 4) ∧ wW b t (S.1 9 (S.1 16 u).toNatClampNeg).toNatClampNeg = wW b t p))
  | 0, _ => ⟨fun _ u hu => absurd hu (Nat.not_lt_zero _), fun _ => rfl⟩
  | v + 1, hv => by
    have ih := kf_iff hm h16 v (by omega)
    by_cases z : (S.1 8 12 ≤ nI v ∨ S.1 11 (S.1 16 v).toNatClampNeg = 4) ∧ wW b t (S.1 9 (S.1 16 v).toNatClampNeg).toNatClampNeg = wW b t p
    · have e : kf b t S p (v + 1) = S.1 16 v := by
        show (if _ then _ else _) = _
        rw [if_pos z]
      obtain ⟨e', he, e16⟩ := h16 v (by omega)
      exact ⟨fun h => absurd (e16.symm.trans (e.symm.trans h)) (nI_no (by omega)), fun h => absurd z (h v (by omega))⟩
    · have e : kf b t S p (v + 1) = kf b t S p v := by
        show (if _ then _ else _) = _
        rw [if_neg z]
      rw [e, ih]
      refine ⟨fun h u hu => ?_, fun h u hu => h u (by omega)⟩
      by_cases y : u = v
      · subst y
        exact z
      · exact h u (by omega)
theorem DPS_16 (hV : KV S m 0 D) (hD : e + 1 + a ≤ D) (h : DPS b t m e P j a S T Sa Ta) : ∀ v, v < m + a → ∃ d, d < D ∧ Sa.1 16 v = nI d := fun v hv => by
  by_cases y : v < m
  · obtain ⟨d, hd, e16⟩ := hV.2.2.2.2 v y
    exact ⟨d, hd, (h.1.2.2.2.1 16 v (by omega) (by omega)).trans e16⟩
  · obtain ⟨c, rfl⟩ : ∃ c, v = m + c := ⟨v - m, by omega⟩
    exact ⟨e + 1 + c, by omega, h.1.2.2.1 c (by omega)⟩
/-- a parameter's NAME is looked for alike -/
theorem dup_eq (hE : EV b t N D m 0 A S T) (h : DPS b t m e P j a S T Sa Ta) (hm : m + a ≤ 800) (hD : e + 1 + a ≤ D) (hid : nid b t T x s) (t79 : Ta.1 79 jj = nI x) : kf b t Sa s (m + a) = -1 ↔ ¬ mDup Ta jj m (m + a) := by
  have h16 := DPS_16 hE.2.1 hD h
  obtain ⟨⟨-, ht, -, -, hD8⟩, ⟨v1, v2, v3, -, v5⟩, -, hO, hN, -, hA⟩ := hE
  obtain ⟨⟨a1, a2, a3, a4, -⟩, ⟨b1, b2, b3, b4, b5, b6, -⟩, hc⟩ := h
  rw [kf_iff hm (fun v hv => by
    obtain ⟨d, hd, e16⟩ := h16 v hv
    exact ⟨d, by omega, e16⟩) (m + a) (Nat.le_refl _)]
  have old : ∀ u, u < m → (((Sa.1 8 12 ≤ nI u ∨ Sa.1 11 (Sa.1 16 u).toNatClampNeg = 4) ∧ wW b t (Sa.1 9 (Sa.1 16 u).toNatClampNeg).toNatClampNeg = wW b t s) ↔ (¬ Ta.1 95 u = 0 ∧ Ta.1 91 u = 5 ∧ Ta.1 90 u = nI x)) := fun u hu => by
    obtain ⟨⟨d', s', y, k', q1, q2, q3, q4, q5, q6, q7, q8, q9, -⟩, h95⟩ := hA u hu
    have nm := nid_eq ht hO hN q5 hid
    rw [a4 16 u (by omega) (by omega), q2, nI_clamp (by omega), a4 11 d' (by omega) (by omega), a4 9 d' (by omega) (by omega), q4, nI_clamp (by omega), q8, a2, b6 95 u (by omega) (by omega) (by omega), b6 91 u (by omega) (by omega) (by omega), b6 90 u (by omega) (by omega) (by omega), q6, q9, nm]
    have k4 : nI k' = 4 ↔ k' = 4 := nI_eq (b := 4) (by omega) (by omega)
    have k5 : nI (k' + 1) = 5 ↔ k' = 4 := ⟨fun y => by have := (nI_eq (a := k' + 1) (b := 5) (by omega) (by omega)).mp y; omega, fun y => by rw [y]; rfl⟩
    rw [k4, k5]
    refine ⟨fun y => ⟨h95, ?_, y.2⟩, fun y => ⟨Or.inr y.2.1, y.2.2⟩⟩
    rcases y.1 with y | y
    · have := (nI_leI (a := m) (b := u) (by omega) (by omega)).mp y
      omega
    · exact y
  have new : ∀ c, c < a → (((Sa.1 8 12 ≤ nI (m + c) ∨ Sa.1 11 (Sa.1 16 (m + c)).toNatClampNeg = 4) ∧ wW b t (Sa.1 9 (Sa.1 16 (m + c)).toNatClampNeg).toNatClampNeg = wW b t s) ↔ Ta.1 90 (m + c) = nI x) := fun c hc' => by
    obtain ⟨y, s', r', q1, q2, q3, q4, q5, -⟩ := hc c hc'
    have hs : s' < t := by
      obtain ⟨_, _, _, _, _, _, _, _, y⟩ := q2
      exact y
    have nm := nid_eq ht hO hN q2 hid
    rw [a3 c hc', nI_clamp (by omega), a4 9 (e + 1 + c) (by omega) (by omega), q3, nI_clamp (by omega), q5, a2, nm]
    exact ⟨fun y => y.2, fun y => ⟨Or.inl (nI_le (by omega) (by omega)), y⟩⟩
  refine ⟨fun hn hd => ?_, fun hn u hu hcd => hn ?_⟩
  · rcases hd with ⟨u, h1, h2, h3⟩ | ⟨u, h1, h2, h3, h4⟩
    · obtain ⟨c, rfl⟩ : ∃ c, u = m + c := ⟨u - m, by omega⟩
      exact hn (m + c) h2 ((new c (by omega)).mpr (h3.trans t79))
    · exact hn u (by omega) ((old u h1).mpr ⟨h2, h3, h4.trans t79⟩)
  · by_cases y : u < m
    · have := (old u y).mp hcd
      exact Or.inr ⟨u, y, this.1, this.2.1, this.2.2.trans t79.symm⟩
    · obtain ⟨c, rfl⟩ : ∃ c, u = m + c := ⟨u - m, by omega⟩
      exact Or.inl ⟨m + c, by omega, hu, ((new c (by omega)).mp hcd).trans t79.symm⟩
theorem DPS_KT (hE : EV b t N D m 0 A S T) (h : DPS b t m e P j a S T Sa Ta) (hm : m + a ≤ 800) (hD : e + 1 + a ≤ D) : KT b t D Sa ∧ KV Sa (m + a) m D := by
  have h16 := DPS_16 hE.2.1 hD h
  obtain ⟨⟨t1, t2, t3, t4, t5⟩, ⟨v1, v2, v3, -, v5⟩, -⟩ := hE
  obtain ⟨⟨a1, a2, a3, a4, -⟩, -⟩ := h
  refine ⟨⟨?_, t2, (a4 8 1 (by omega) (by omega)).trans t3, NS_k t4 (fun d _ => ⟨a4 9 d (by omega) (by omega), a4 10 d (by omega) (by omega)⟩), t5⟩, a1, by omega, a2, v2, h16⟩
  rw [← t1]
  funext k
  exact a4 2 k (by omega) (by omega)
/-- one parameter -/
theorem dp_step (hg : ip_gk (lg_tbl, vwCl, Gr)) (hL : LX b t N D m 0 A 0 0 0 sz mz S T) (h : DPS b t m e P j a S T Sa Ta) (hm : m + a < 800) (hD : e + 1 + a < D) (hP : P + a < 900) (hi : i < sz) (hj : jj < mz) (s4 : S.1 4 i = 4) (s5 : S.1 5 i = nI (e + 1 + a)) (s6 : S.1 6 i = nI s) (h9 : S.1 9 (e + 1 + a) = nI s) (h12 : S.1 12 (e + 1 + a) = nI r) (hr : r ≤ 1) (hid : nid b t T x s) (t78 : T.1 78 jj = 27) (t79 : T.1 79 jj = nI x) (t80 : T.1 80 jj = nI r) (t81 : T.1 81 jj = nI s) :
    (∃ S' T', CG l Gr n w d Sa i S' (i + 1) ∧ kS b t Sa i = S' ∧ RG l Gr n w d Ta jj T' (jj + 1) ∧ DPS b t m e P j (a + 1) S T S' T') ∨ FLT l Gr n w d b t Sa Ta i (i + 1) jj := by
  have hE := hL.1
  have ht := hE.1.2.1
  have hDD := hE.1.2.2.2.2
  have hs : s < t := by
    obtain ⟨_, _, _, _, _, _, _, _, y⟩ := hid
    exact y
  obtain ⟨kt, kv⟩ := DPS_KT hE h (by omega) (by omega)
  have hh := h
  obtain ⟨⟨a1, a2, a3, a4, a5⟩, ⟨b1, b2, b3, b4, b5, b6, b7⟩, hc⟩ := h
  have ci : CIx Sa i sz := ⟨(a4 3 4 (by omega) (by omega)).trans hL.2.1.1, hL.2.1.2.1, (a4 3 5 (by omega) (by omega)).trans hL.2.1.2.2, hi⟩
  have ri : RIx Ta jj mz := ⟨(b6 73 13 (by omega) (by omega) (by omega)).trans hL.2.2.2.1.1, hL.2.2.2.1.2.1, (b6 73 7 (by omega) (by omega) (by omega)).trans hL.2.2.2.1.2.2, hj⟩
  have u6 : Sa.1 6 i = nI s := (a4 6 i (by omega) (by omega)).trans s6
  have u79 : Ta.1 79 jj = nI x := (b6 79 jj (by omega) (by omega) (by omega)).trans t79
  have u80 : Ta.1 80 jj = nI r := (b6 80 jj (by omega) (by omega) (by omega)).trans t80
  have u81 : Ta.1 81 jj = nI s := (b6 81 jj (by omega) (by omega) (by omega)).trans t81
  have gk := g_4 (l := l) (Gr := Gr) (n := n) (w := w) (d := d) (b := b) (t := t) hg ci ((a4 4 i (by omega) (by omega)).trans s4) kt kv (Nat.le_of_lt hs) u6 (by omega)
  rw [(a4 5 i (by omega) (by omega)).trans s5] at gk
  have ef : kFind b t Sa s = kf b t Sa s (m + a) := by
    unfold kFind
    rw [a1, nI_clamp (by omega)]
  have ep : (Sa.1 6 i).toNatClampNeg = s := by rw [u6]; exact nI_clamp (by omega)
  have du := dup_eq (jj := jj) hE hh (by omega) (by omega) hid u79
  by_cases z : kf b t Sa s (m + a) = -1
  · left
    have ek : kIn b t Sa i = Sa := by unfold kIn; rw [ep, ef, if_pos z]
    rw [ek] at gk
    have rk := r_27 (l := l) (Gr := Gr) (n := n) (w := w) (d := d) hg ri ((b6 78 jj (by omega) (by omega) (by omega)).trans t78) b1 (by omega) b4 (by omega) b2 (by omega) b3 (by omega) (du.mp z)
    rw [u79, u80, show P + a - P = a by omega] at rk
    have e8 : kShow Sa (nI (e + 1 + a)) = zi (zi Sa 8 11 (nI (m + a + 1))) 16 (m + a) (nI (e + 1 + a)) := by
      unfold kShow
      rw [a1, nI_1, nI_clamp (by omega)]
    obtain ⟨X, eX⟩ : ∃ X, X = kShow Sa (nI (e + 1 + a)) := ⟨_, rfl⟩
    rw [← eX] at gk e8
    have x3 : ∀ c k, ¬ (c = 8 ∧ k = 11) → ¬ (c = 16 ∧ k = m + a) → X.1 c k = Sa.1 c k := fun c k q1 q2 => by rw [e8, zi_get, if_neg q2, zi_get, if_neg q1]
    obtain ⟨Y, eY⟩ : ∃ Y, Y = zi (mSy (zi (zi Ta 110 (P + a) (nI r)) 73 60 (nI (P + a + 1))) (m + a) (nI x) 4 (nI r) 0 (nI a)) 95 (m + a) 0 := ⟨_, rfl⟩
    rw [← eY] at rk
    have y3 : ∀ c k, ¬ (c = 73 ∧ (k = 34 ∨ k = 60)) → ¬ ((90 ≤ c ∧ c ≤ 95) ∧ k = m + a) → ¬ (c = 110 ∧ k = P + a) → Y.1 c k = Ta.1 c k := fun c k q1 q2 q3 => by
      rw [eY, zi_get, if_neg (by omega)]
      unfold mSy
      rw [zi_get, if_neg (by omega), zi_get, if_neg (by omega), zi_get, if_neg (by omega), zi_get, if_neg (by omega), zi_get, if_neg (by omega), zi_get, if_neg (by omega), zi_get, if_neg (by omega), zi_get, if_neg (by omega), zi_get, if_neg (by omega)]
    have yv : Y.1 73 34 = nI (m + a + 1) ∧ Y.1 73 60 = nI (P + a + 1) ∧ Y.1 90 (m + a) = nI x ∧ Y.1 91 (m + a) = 4 ∧ Y.1 92 (m + a) = nI r ∧ Y.1 93 (m + a) = 0 ∧ Y.1 94 (m + a) = nI a ∧ Y.1 110 (P + a) = nI r := by
      rw [eY]
      unfold mSy
      refine ⟨?_, ?_, ?_, ?_, ?_, ?_, ?_, ?_⟩
      · rw [zi_c (by decide)]; exact zi_v
      · rw [zi_c (by decide), zi_k (by decide), zi_c (by decide), zi_c (by decide), zi_c (by decide), zi_c (by decide), zi_c (by decide), zi_c (by decide)]; exact zi_v
      · rw [zi_c (by decide), zi_c (by decide), zi_c (by decide), zi_c (by decide), zi_c (by decide), zi_c (by decide), zi_c (by decide)]; exact zi_v
      · rw [zi_c (by decide), zi_c (by decide), zi_c (by decide), zi_c (by decide), zi_c (by decide), zi_c (by decide)]; exact zi_v
      · rw [zi_c (by decide), zi_c (by decide), zi_c (by decide), zi_c (by decide), zi_c (by decide)]; exact zi_v
      · rw [zi_c (by decide), zi_c (by decide), zi_c (by decide), zi_c (by decide)]; exact zi_v
      · rw [zi_c (by decide), zi_c (by decide), zi_c (by decide)]; exact zi_v
      · rw [zi_c (by decide), zi_c (by decide), zi_c (by decide), zi_c (by decide), zi_c (by decide), zi_c (by decide), zi_c (by decide), zi_c (by decide), zi_c (by decide)]; exact zi_v
    refine ⟨X, Y, gk.2, gk.1, rk, ⟨?_, (x3 8 12 (by omega) (by omega)).trans a2, fun c hc' => ?_, fun c k q1 q2 => (x3 c k (by omega) (by omega)).trans (a4 c k q1 q2), fun c k => by rw [e8]; exact a5 c k⟩, ⟨yv.1, yv.2.1, (y3 73 61 (by omega) (by omega) (by omega)).trans b3, (y3 73 62 (by omega) (by omega) (by omega)).trans b4, (y3 73 63 (by omega) (by omega) (by omega)).trans b5, fun c k q1 q2 q3 => (y3 c k (by omega) (by omega) (by omega)).trans (b6 c k q1 q2 q3), fun c k => by rw [eY]; exact b7 c k⟩, fun c hc' => ?_⟩
    · rw [e8, zi_c (by decide)]; exact zi_v
    · by_cases y : c = a
      · subst y
        rw [e8]; exact zi_v
      · rw [x3 16 (m + c) (by omega) (by omega)]
        exact a3 c (by omega)
    · by_cases y : c = a
      · subst y
        exact ⟨x, s, r, hr, hid, h9, h12, yv.2.2.1, yv.2.2.2.1, yv.2.2.2.2.1, yv.2.2.2.2.2.1, yv.2.2.2.2.2.2.1, yv.2.2.2.2.2.2.2⟩
      · obtain ⟨x', s', r'', q1, q2, q3, q4, q5, q6, q7, q8, q9, q10⟩ := hc c (by omega)
        exact ⟨x', s', r'', q1, q2, q3, q4, (y3 90 (m + c) (by omega) (by omega) (by omega)).trans q5, (y3 91 (m + c) (by omega) (by omega) (by omega)).trans q6, (y3 92 (m + c) (by omega) (by omega) (by omega)).trans q7, (y3 93 (m + c) (by omega) (by omega) (by omega)).trans q8, (y3 94 (m + c) (by omega) (by omega) (by omega)).trans q9, (y3 110 (P + c) (by omega) (by omega) (by omega)).trans q10⟩
  · right
    have ek : kIn b t Sa i = kT Sa 4 (nI s) := by unfold kIn; rw [ep, ef, if_neg z, u6]
    rw [ek] at gk
    have nd : mDup Ta jj m (m + a) := Classical.byContradiction (fun y => z (du.mpr y))
    have rk := r_27a (l := l) (Gr := Gr) (n := n) (w := w) (d := d) hg ri ((b6 78 jj (by omega) (by omega) (by omega)).trans t78) b1 (by omega) b4 (by omega) b2 (by omega) b3 (by omega) nd
    rw [u81] at rk
    have uu := kT_0 (g := 4) (pl := nI s) ci.2.2.1
    have c8 : ∀ Y : zS, ∀ f, (kShow Y f).1 3 5 = Y.1 3 5 ∧ (kShow Y f).1 3 6 = Y.1 3 6 := fun Y f => by
      unfold kShow
      exact ⟨by rw [zi_c (by decide), zi_c (by decide)], by rw [zi_c (by decide), zi_c (by decide)]⟩
    exact FLT_1 (g := 4) (pl := nI s) ci.2.2.1 (by decide) (Nat.le_refl _) gk.1 gk.2 ((c8 _ _).1.trans uu.1) ((c8 _ _).2.trans uu.2) rk mF_f.1 mF_f.2
end ITD
