/-! SORTS of ITEMs on both sides: def -/
section ITG
variable {l : Launch} {Gr : zG} {n w : Nat} {d : Nat} {A A' : Nat → Nat → Prop} {b : Nat → Int32} {t N D D' m m5 tp mp sz mz sc u vw vw' iw iw' P P' lo hi p q i i' i1 i2 i3 j j' jj j1 j2 j3 x K e a r r' pb z vv p1 s k v : Nat} {S0 T0 S S' S1 S5 Sa T T' T1 T5 Ta : zS}
/-- the def's end: both forget the parameters and see the def -/
theorem df_end (hg : ip_gk (lg_tbl, vwCl, Gr)) (hS : LSt b t N D m A 0 0 sz mz 0 0 vw 0 256 S T) (h60 : T.1 73 60 = nI P) (h59 : T.1 73 59 = nI iw) (hDP : DPS b t m e P j k S T Sa Ta) (hp : ∀ a, a < k → sPar S T (nid b t T) e i jj a) (hm : m + k < 800) (hD : e + k < D) (hP : P + k ≤ 900) (hPD : P + k ≤ D) (hL5 : LX b t N D (m + k) m (dfA A S e k) 1 1 0 sz mz S5 T5) (a5 : KKc Sa S5 i2 i1 0) (a6 : KKm (mSn (zi Ta 73 47 1) m k) T5 j2 j1 0 0) (hi1 : i1 < sz) (hj1 : j1 < mz) (hj : j < 12000) (nv : ∀ v, v < m → ¬ S.1 16 v = nI e) (hid : nid b t T v s) (s9 : S.1 9 e = nI s) (s11 : S.1 11 e = 4) (s12 : S.1 12 e = nI r) (hr : r ≤ 1) (s13 : S.1 13 e = 0) (s15 : S.1 15 e = nI k) (f5 : S.1 4 i1 = 5) (f6 : S5.1 5 i1 = nI e) (f7 : S.1 6 i1 = nI p1) (g7 : T.1 78 j1 = 29) (g8 : T.1 79 j1 = nI v) (g9 : T5.1 80 j1 = nI r) (hr' : r' ≤ 1) (hpb : pb ≤ 1) (b1 : S5.1 40 0 = nI (r' + 2 * pb)) (b2 : T5.1 98 0 = nI r') (b4 : T5.1 99 0 = nI p1) :
    (∃ S6 T6, CG l Gr n w d S5 i1 S6 (i1 + 1) ∧ kS b t S5 i1 = S6 ∧ RG l Gr n w d T5 j1 T6 (j1 + 1) ∧ LIt b t N D (m + 1) (adA A e j) sz mz vw iw (P + k) S6 T6 ∧ (∀ c k', ¬ (c = 8 ∧ (k' = 11 ∨ k' = 12)) → ¬ c = 16 → ¬ (c = 39 ∧ k' = 3) → S6.1 c k' = S5.1 c k') ∧ (∀ c k', S6.2 c k' = S5.2 c k') ∧ (∀ c k', ¬ (c = 73 ∧ (k' = 34 ∨ k' = 43 ∨ k' = 47)) → ¬ (90 ≤ c ∧ c ≤ 97) → T6.1 c k' = T5.1 c k') ∧ (∀ c k', T6.2 c k' = T5.2 c k') ∧ r' = r) ∨ FLT l Gr n w d b t S5 T5 i1 (i1 + 1) j1 := by
  have hL := hS.1
  have hE := hL.1
  have hV := hS.2.2.2.2.2.2
  have hDD := hE.1.2.2.2.2
  obtain ⟨⟨a1, a2, a3, a4, a42⟩, ⟨c1, c2, c3, c4, c5, c6, c62⟩, hc⟩ := hDP
  have hs : s < t := by
    obtain ⟨_, _, _, _, _, _, _, _, y⟩ := hid
    exact y
  have l3 := hL5.2.2.1
  have l5 := hL5.2.1.2.2
  have l7 := hL5.2.2.2.1.2.2
  obtain ⟨Y, eY⟩ : ∃ Y, Y = mSn (zi Ta 73 47 1) m k := ⟨_, rfl⟩
  rw [← eY] at a6
  have yc : ∀ c k', ¬ c = 95 → ¬ (c = 73 ∧ k' = 47) → Y.1 c k' = Ta.1 c k' := fun c k' q1 q2 => by rw [eY, mSn_c q1, zi_get, if_neg q2]
  have y95 : ∀ c, c < m → Y.1 95 c = Ta.1 95 c := fun c hc' => by rw [eY, mSn_v, if_neg (by omega), zi_c (by decide)]
  -- cells of S5 and T5 against S and T
  have sx : ∀ c k', (9 ≤ c ∧ c ≤ 15) ∨ (c = 16 ∧ k' < m) ∨ c = 2 ∨ (c = 8 ∧ ¬ k' = 11 ∧ ¬ k' = 12) ∨ c = 4 ∨ c = 6 ∨ (c = 3 ∧ k' = 4) ∨ (c = 39 ∧ ¬ k' = 3) → S5.1 c k' = S.1 c k' := fun c k' q => (a5.1 c k' (by omega) (by omega) (by omega) (by omega)).trans (a4 c k' (by omega) (by omega))
  have tx' : ∀ c k', c = 76 ∨ c = 77 ∨ c = 78 ∨ c = 79 ∨ (c = 73 ∧ (k' = 9 ∨ k' = 13 ∨ k' = 49 ∨ k' = 59)) ∨ ((90 ≤ c ∧ c ≤ 97) ∧ k' < m) ∨ (c = 110 ∧ k' < P) → T5.1 c k' = T.1 c k' := fun c k' q => by
    rw [a6.1 c k' (by omega) (by omega) (by omega) (by omega)]
    by_cases y : c = 95
    · subst y
      rw [y95 k' (by omega)]
      exact c6 95 k' (by omega) (by omega) (by omega)
    · rw [yc c k' y (by omega)]
      exact c6 c k' (by omega) (by omega) (by omega)
  have t5 : ∀ k', 60 ≤ k' → k' ≤ 63 → T5.1 73 k' = Ta.1 73 k' := fun k' q1 q2 => (a6.1 73 k' (by omega) (by omega) (by omega) (by omega)).trans (yc 73 k' (by omega) (by omega))
  have gk := g_5 (l := l) (Gr := Gr) (n := n) (w := w) (d := d) (b := b) (t := t) hg (LX_ci hL5 hi1) ((sx 4 i1 (by omega)).trans f5) l3 (by omega) f6 (by omega) hL5.1.2.1.2.2.1 (by omega)
  have eM := kMust_v (S := S5) (i := i1) (wt := r) l3 (by omega) hr' hpb hr b1 ((sx 6 i1 (by omega)).trans f7)
  rw [f6, nI_clamp (by omega), (sx 12 e (by omega)).trans s12, kMust_c (c := 8) (by omega) (by omega), hL5.1.2.1.2.2.1, eM] at gk
  have p3 : (kPop S5).1 39 3 = nI 0 := kPop_3 l3
  have p5 : (kPop S5).1 3 5 = 0 := (kPop_c (by omega)).trans l5
  by_cases zr : r' = r
  · left
    rw [if_pos zr] at gk
    have rk := r_29 (l := l) (Gr := Gr) (n := n) (w := w) (d := d) (m := 0) (F := m) hg (LX_ri hL5 hj1) ((tx' 78 j1 (by omega)).trans g7) hL5.2.2.2.2.1 (by omega) ((t5 62 (by omega) (by omega)).trans c4) (by omega) (by rw [b2, g9, zr])
    rw [(tx' 79 j1 (by omega)).trans g8, g9, (t5 63 (by omega) (by omega)).trans c5, (t5 61 (by omega) (by omega)).trans c3, (t5 60 (by omega) (by omega)).trans c2, pk_sub (by omega), show P + k - P = k by omega] at rk
    obtain ⟨X, eX⟩ : ∃ X, X = kShow (zi (zi (kPop S5) 8 11 (nI m)) 8 12 0) (nI e) := ⟨_, rfl⟩
    rw [← eX] at gk
    have e8 : X = zi (zi (zi (zi (kPop S5) 8 11 (nI m)) 8 12 0) 8 11 (nI (m + 1))) 16 m (nI e) := by
      rw [eX]
      unfold kShow
      have y11 : (zi (zi (kPop S5) 8 11 (nI m)) 8 12 0).1 8 11 = nI m := by rw [zi_k (by decide)]; exact zi_v
      rw [y11, nI_1, nI_clamp (by omega)]
    have xk : ∀ c k', ¬ (c = 8 ∧ (k' = 11 ∨ k' = 12)) → ¬ (c = 16 ∧ k' = m) → ¬ (c = 39 ∧ k' = 3) → X.1 c k' = S5.1 c k' := fun c k' q1 q2 q3 => by
      rw [e8, zi_get, if_neg q2, zi_get, if_neg (by omega), zi_get, if_neg (by omega), zi_get, if_neg (by omega)]
      exact kPop_c q3
    have xk2 : ∀ c k', X.2 c k' = S5.2 c k' := fun _ _ => by rw [e8]; rfl
    have x11 : X.1 8 11 = nI (m + 1) := by rw [e8, zi_c (by decide)]; exact zi_v
    have x12 : X.1 8 12 = 0 := by rw [e8, zi_c (by decide), zi_k (by decide)]; exact zi_v
    have x16 : X.1 16 m = nI e := by rw [e8]; exact zi_v
    have x3 : X.1 39 3 = nI 0 := by rw [e8, zi_c (by decide), zi_c (by decide), zi_c (by decide), zi_c (by decide)]; exact p3
    have xs : ∀ c k', (9 ≤ c ∧ c ≤ 15) ∨ (c = 16 ∧ k' < m) ∨ c = 2 ∨ (c = 8 ∧ ¬ k' = 11 ∧ ¬ k' = 12) ∨ (c = 3 ∧ k' = 4) ∨ (c = 39 ∧ ¬ k' = 3) → X.1 c k' = S.1 c k' := fun c k' q => (xk c k' (by omega) (by omega) (by omega)).trans (sx c k' (by omega))
    obtain ⟨Z, eZ⟩ : ∃ Z, Z = zi (zi (mSy (zi (zi (zi T5 73 43 (nI 0)) 73 47 0) 73 34 (nI m)) m (nI v) 5 (nI r) 0 (nI j)) 96 m (nI P)) 97 m (nI k) := ⟨_, rfl⟩
    rw [← eZ] at rk
    have zk : ∀ c k', ¬ (c = 73 ∧ (k' = 34 ∨ k' = 43 ∨ k' = 47)) → ¬ ((90 ≤ c ∧ c ≤ 97) ∧ k' = m) → Z.1 c k' = T5.1 c k' := fun c k' q1 q2 => by
      rw [eZ, zi_get, if_neg (by omega), zi_get, if_neg (by omega)]
      unfold mSy
      rw [zi_get, if_neg (by omega), zi_get, if_neg (by omega), zi_get, if_neg (by omega), zi_get, if_neg (by omega), zi_get, if_neg (by omega), zi_get, if_neg (by omega), zi_get, if_neg (by omega), zi_get, if_neg (by omega), zi_get, if_neg (by omega), zi_get, if_neg (by omega)]
    have zk2 : ∀ c k', Z.2 c k' = T5.2 c k' := fun _ _ => by rw [eZ]; rfl
    have zv : Z.1 73 34 = nI (m + 1) ∧ Z.1 73 43 = nI 0 ∧ Z.1 73 47 = 0 ∧ Z.1 90 m = nI v ∧ Z.1 91 m = 5 ∧ Z.1 92 m = nI r ∧ Z.1 93 m = 0 ∧ Z.1 94 m = nI j ∧ Z.1 95 m = 1 ∧ Z.1 96 m = nI P ∧ Z.1 97 m = nI k := by
      rw [eZ]
      unfold mSy
      refine ⟨?_, ?_, ?_, ?_, ?_, ?_, ?_, ?_, ?_, ?_, zi_v⟩
      · rw [zi_c (by decide), zi_c (by decide)]; exact zi_v
      · rw [zi_c (by decide), zi_c (by decide), zi_k (by decide), zi_c (by decide), zi_c (by decide), zi_c (by decide), zi_c (by decide), zi_c (by decide), zi_c (by decide), zi_k (by decide), zi_k (by decide)]; exact zi_v
      · rw [zi_c (by decide), zi_c (by decide), zi_k (by decide), zi_c (by decide), zi_c (by decide), zi_c (by decide), zi_c (by decide), zi_c (by decide), zi_c (by decide), zi_k (by decide)]; exact zi_v
      · rw [zi_c (by decide), zi_c (by decide), zi_c (by decide), zi_c (by decide), zi_c (by decide), zi_c (by decide), zi_c (by decide), zi_c (by decide)]; exact zi_v
      · rw [zi_c (by decide), zi_c (by decide), zi_c (by decide), zi_c (by decide), zi_c (by decide), zi_c (by decide), zi_c (by decide)]; exact zi_v
      · rw [zi_c (by decide), zi_c (by decide), zi_c (by decide), zi_c (by decide), zi_c (by decide), zi_c (by decide)]; exact zi_v
      · rw [zi_c (by decide), zi_c (by decide), zi_c (by decide), zi_c (by decide), zi_c (by decide)]; exact zi_v
      · rw [zi_c (by decide), zi_c (by decide), zi_c (by decide), zi_c (by decide)]; exact zi_v
      · rw [zi_c (by decide), zi_c (by decide), zi_c (by decide)]; exact zi_v
      · rw [zi_c (by decide)]; exact zi_v
    have zt : ∀ c k', c = 76 ∨ c = 77 ∨ (c = 73 ∧ (k' = 9 ∨ k' = 13 ∨ k' = 49 ∨ k' = 59)) ∨ ((90 ≤ c ∧ c ≤ 97) ∧ k' < m) ∨ (c = 110 ∧ k' < P) → Z.1 c k' = T.1 c k' := fun c k' q => (zk c k' (by omega) (by omega)).trans (tx' c k' (by omega))
    have z60 : Z.1 73 60 = nI (P + k) := (zk 73 60 (by omega) (by omega)).trans ((t5 60 (by omega) (by omega)).trans c2)
    have z110 : ∀ c, c < k → Z.1 110 (P + c) = Ta.1 110 (P + c) := fun c hc' => (zk 110 (P + c) (by omega) (by omega)).trans ((a6.1 110 (P + c) (by omega) (by omega) (by omega) (by omega)).trans (yc 110 (P + c) (by omega) (by omega)))
    have hO := hE.2.2.2.1
    have kt := hE.1
    have kv := hE.2.1
    have EVF : EV b t N D (m + 1) 0 (adA A e j) X Z := by
      refine ⟨⟨?_, kt.2.1, (xs 8 1 (by omega)).trans kt.2.2.1, NS_k kt.2.2.2.1 (fun d' _ => ⟨xs 9 d' (by omega), xs 10 d' (by omega)⟩), hDD⟩, ⟨x11, by omega, x12, by omega, fun v' hv' => ?_⟩, zv.1, ⟨(zt 73 9 (by omega)).trans hO.1, fun v' hv' => ?_, fun v1 v2 q0 q00 q1 q2 q3 q4 q5 q6 q7 => ?_⟩, hE.2.2.2.2.1, Or.inl ⟨rfl, zv.2.2.1⟩, fun v' hv' => ?_⟩
      · rw [← kt.1]
        funext k'
        exact xs 2 k' (by omega)
      · by_cases y : v' = m
        · rw [y]
          exact ⟨e, by omega, x16⟩
        · obtain ⟨d', hd', e16⟩ := kv.2.2.2.2 v' (by omega)
          exact ⟨d', hd', (xs 16 v' (by omega)).trans e16⟩
      · rw [zt 76 v' (by omega), zt 77 v' (by omega)]
        exact hO.2.1 v' hv'
      · rw [zt 76 v1 (by omega)] at q5
        rw [zt 76 v2 (by omega)] at q6
        exact hO.2.2 v1 v2 q0 q00 q1 q2 q3 q4 q5 q6 q7
      · by_cases y : v' = m
        · rw [y]
          refine ⟨⟨e, s, v, 4, by omega, x16, hs, (xs 9 e (by omega)).trans s9, nid_k hid (zt 73 9 (by omega)) (fun k' => zt 76 k' (by omega)), zv.2.2.2.1, by omega, (xs 11 e (by omega)).trans s11, zv.2.2.2.2.1, ?_, ?_, ⟨r, hr, (xs 12 e (by omega)).trans s12⟩, ⟨0, by omega, (xs 13 e (by omega)).trans s13⟩, ⟨j, hj, zv.2.2.2.2.2.2.2.1, fun _ => Or.inr ⟨rfl, rfl⟩, fun q => absurd (Or.inr rfl) q⟩, fun _ => ⟨k, P, (xs 15 e (by omega)).trans s15, zv.2.2.2.2.2.2.2.2.2.2, zv.2.2.2.2.2.2.2.2.2.1, ⟨hP, by rw [z60, nI_clamp (by omega)]; omega⟩, hD, fun c hc' => ?_⟩⟩, by rw [zv.2.2.2.2.2.2.2.2.1]; decide⟩
          · rw [zv.2.2.2.2.2.1, xs 12 e (by omega)]; exact s12.symm
          · rw [zv.2.2.2.2.2.2.1, xs 13 e (by omega)]; exact s13.symm
          · obtain ⟨x', s', r'', q1, q2, q3, q4, q5, q6, q7, q8, q9, q10⟩ := hc c hc'
            rw [z110 c hc', xs 12 (e + 1 + c) (by omega), q10, q4]
            exact ⟨rfl, r'', q1, rfl⟩
        · obtain ⟨ho, h95⟩ := hE.2.2.2.2.2.2 v' (by omega)
          refine ⟨EVv_p (P := P) (P' := P + k) ho (fun c k' q => xs c k' (by omega)) (fun c k' q => zt c k' (by omega)) h60 (by omega) z60 (by omega) hP (fun k' hk' => zt 110 k' (by omega)) (fun k' d' a' _ _ _ _ hA1 hA2 => Or.inl (hA1 ?_)), ?_⟩
          · exact Or.inl hS.2.1
          · rw [zt 95 v' (by omega)]
            exact h95
    have hus := hS.2.2.2.1
    refine ⟨X, Z, gk.2, gk.1, rk, ⟨⟨⟨EVF, ⟨(xs 3 4 (by omega)).trans hL.2.1.1, hL.2.1.2.1, (xk 3 5 (by omega) (by omega) (by omega)).trans l5⟩, x3, ⟨(zt 73 13 (by omega)).trans hL.2.2.2.1.1, hL.2.2.2.1.2.1, (zk 73 7 (by omega) (by omega)).trans l7⟩, zv.2.1, (zk 73 56 (by omega) (by omega)).trans hL5.2.2.2.2.2⟩, zv.2.2.1, ⟨(xs 39 5 (by omega)).trans hS.2.2.1.1, (zt 73 49 (by omega)).trans hS.2.2.1.2⟩, ⟨(xs 39 9 (by omega)).trans hus.1, hus.2⟩, ⟨(xs 39 10 (by omega)).trans hS.2.2.2.2.1.1, hS.2.2.2.2.1.2⟩, Or.inl ⟨rfl, rfl, rfl⟩, ⟨fun v1 v2 q1 q2 q3 => ?_, fun v1 q1 => ?_⟩, fun d' a' y => ?_⟩, (zt 73 59 (by omega)).trans h59, z60, hPD⟩, fun c k' q1 q2 q3 => xk c k' q1 (fun y => q2 y.1) q3, xk2, fun c k' q1 q2 => zk c k' q1 (fun y => q2 y.1), zk2, zr⟩
    · by_cases y1 : v1 = m <;> by_cases y2 : v2 = m
      · omega
      · rw [y1, x16, xs 16 v2 (by omega)] at q3
        exact absurd q3.symm (nv v2 (by omega))
      · rw [y2, x16, xs 16 v1 (by omega)] at q3
        exact absurd q3 (nv v1 (by omega))
      · rw [xs 16 v1 (by omega), xs 16 v2 (by omega)] at q3
        exact hV.1.1 v1 v2 (by omega) (by omega) q3
    · by_cases y1 : v1 = m
      · rw [y1, x16, nI_clamp (by omega), xs 11 e (by omega), s11]
        decide
      · rw [xs 16 v1 (by omega), xs 11 _ (by omega)]
        exact hV.1.2 v1 (by omega)
    · rcases y with y | ⟨rfl, rfl⟩
      · obtain ⟨⟨v', hv1, hv2⟩, hv3⟩ := hV.2 d' a' y
        refine ⟨⟨v', by omega, (xs 16 v' (by omega)).trans hv2⟩, fun q => ?_⟩
        rw [xs 11 d' (by omega)] at q
        rw [xs 13 d' (by omega)]
        exact hv3 q
      · refine ⟨⟨m, by omega, x16⟩, fun q => ?_⟩
        rw [xs 11 d' (by omega), s11] at q
        exact absurd q (by decide)
  · right
    rw [if_neg zr] at gk
    have rk := r_29a (l := l) (Gr := Gr) (n := n) (w := w) (d := d) (m := 0) hg (LX_ri hL5 hj1) ((tx' 78 j1 (by omega)).trans g7) hL5.2.2.2.2.1 (by omega) (by rw [b2, g9]; exact fun y => zr ((nI_b hr' hr).mp y))
    rw [b4] at rk
    have uu := kT_0 (g := 5) (pl := nI p1) p5
    have c8 : ∀ Y : zS, ∀ f, (kShow Y f).1 3 5 = Y.1 3 5 ∧ (kShow Y f).1 3 6 = Y.1 3 6 := fun Y f => by
      unfold kShow
      exact ⟨by rw [zi_c (by decide), zi_c (by decide)], by rw [zi_c (by decide), zi_c (by decide)]⟩
    refine FLT_1 (g := 5) (pl := nI p1) l5 (by decide) (Nat.le_refl _) gk.1 gk.2 ((c8 _ _).1.trans ?_) ((c8 _ _).2.trans ?_) rk ?_ ?_
    · rw [zi_c (by decide), zi_c (by decide)]; exact uu.1
    · rw [zi_c (by decide), zi_c (by decide)]; exact uu.2
    · rw [zi_k (by decide), zi_k (by decide), zi_k (by decide)]; exact mF_f.1
    · rw [zi_k (by decide), zi_k (by decide), zi_k (by decide)]; exact mF_f.2
end ITG
