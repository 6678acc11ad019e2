/-! SORTS of ITEMs on both sides: def -/
section ITE
variable {l : Launch} {Gr : zG} {n w : Nat} {d : Nat} {A A' : Nat → Nat → Prop} {b : Nat → Int32} {t N D D' m m5 tp mp sz mz sc u vw vw' iw iw' P P' lo hi p q i i' i1 i2 i3 j j' jj j1 j2 j3 x K e a r r' pb z vv p1 s k v : Nat} {S0 T0 S S' S1 Sa T T' T1 Ta : zS}
theorem mSn_v {F c : Nat} : ∀ u, (mSn T F u).1 95 c = if F ≤ c ∧ c < F + u then 1 else T.1 95 c
  | 0 => by rw [if_neg (by omega)]; rfl
  | u + 1 => by
    show (zi (mSn T F u) 95 (F + u) 1).1 95 c = _
    by_cases y : c = F + u
    · subst y
      rw [if_pos (by omega)]
      exact zi_v
    · rw [zi_k y, mSn_v u]
      by_cases q : F ≤ c ∧ c < F + u
      · rw [if_pos q, if_pos (by omega)]
      · rw [if_neg q, if_neg (by omega)]
theorem mSn_2 {F c k : Nat} : ∀ u, (mSn T F u).2 c k = T.2 c k
  | 0 => rfl
  | u + 1 => mSn_2 u
/-- a visible NAME stays visible where parameters have come -/
theorem EVv_p (h : EVv b t D A S T v) (hs : ∀ c k, (9 ≤ c ∧ c ≤ 15) ∨ (c = 16 ∧ k = v) → S'.1 c k = S.1 c k) (hq : ∀ c k, c = 76 ∨ ((90 ≤ c ∧ c ≤ 97) ∧ ¬ c = 95 ∧ k = v) ∨ (c = 73 ∧ k = 9) → T'.1 c k = T.1 c k) (h60 : T.1 73 60 = nI P) (hP : P ≤ 900) (h60' : T'.1 73 60 = nI P') (hPP : P ≤ P') (hP' : P' ≤ 900) (h110 : ∀ k, k < P → T'.1 110 k = T.1 110 k) (hA : ∀ k d a, k ≤ 4 → d < D → S.1 16 v = nI d → S.1 11 d = nI k → ((T.1 73 47 = 0 ∨ k = 3 ∨ k = 4) → A d a) → (T'.1 73 47 = 0 ∨ k = 3 ∨ k = 4) → A' d a) : EVv b t D A' S' T' v := by
  obtain ⟨dd, sp, y, k, e1, e2, e3, e4, e5, e6, e7, e8, e9, e10, e11, e12, e13, ⟨a0, l0, e15, e17, e16⟩, e14⟩ := h
  refine ⟨dd, sp, y, k, e1, (hs 16 v (by omega)).trans e2, e3, (hs 9 dd (by omega)).trans e4, nid_k e5 (hq 73 9 (by omega)) (fun k => hq 76 k (by omega)), (hq 90 v (by omega)).trans e6, e7, (hs 11 dd (by omega)).trans e8, (hq 91 v (by omega)).trans e9, ?_, ?_, ?_, ?_, ⟨a0, l0, (hq 94 v (by omega)).trans e15, hA k dd a0 e7 e1 e2 e8 e17, fun y => (hs 14 dd (by omega)).trans (e16 y)⟩, fun hk => ?_⟩
  · rw [hq 92 v (by omega), hs 12 dd (by omega)]; exact e10
  · rw [hq 93 v (by omega), hs 13 dd (by omega)]; exact e11
  · rw [hs 12 dd (by omega)]; exact e12
  · rw [hs 13 dd (by omega)]; exact e13
  · obtain ⟨a, qq, g1, g2, g3, g4, g5, g6⟩ := e14 hk
    have g42 := g4.2
    rw [h60, nI_clamp (by omega)] at g42
    refine ⟨a, qq, (hs 15 dd (by omega)).trans g1, (hq 97 v (by omega)).trans g2, (hq 96 v (by omega)).trans g3, ⟨g4.1, ?_⟩, g5, fun e he => ?_⟩
    · rw [h60', nI_clamp (by omega)]
      omega
    · rw [h110 (qq + e) (by omega), hs 12 (dd + 1 + e) (by omega)]
      exact g6 e he
/-- all parameters -/
theorem dp_all (hg : ip_gk (lg_tbl, vwCl, Gr)) (hL : LX b t N D m 0 A 0 0 0 sz mz S T) (cg1 : CG l Gr n w d S i S1 (i + 1)) (k1 : S1 = kR b t (i + 1 - i) i S) (rg1 : RG l Gr n w d T j T1 (j + 1)) (h0 : DPS b t m e P j 0 S T S1 T1) (hp : ∀ a, a < k → sPar S T (nid b t T) e i j a) (hm : m + k < 800) (hD : e + k < D) (hP : P + k ≤ 900) (hi : i + 1 + k ≤ sz) (hj : j + 1 + k ≤ mz) : ∀ a, a ≤ k → (∃ Sa Ta, CG l Gr n w d S i Sa (i + 1 + a) ∧ Sa = kR b t (i + 1 + a - i) i S ∧ RG l Gr n w d T j Ta (j + 1 + a) ∧ DPS b t m e P j a S T Sa Ta) ∨ FLT l Gr n w d b t S T i (i + 1 + a) j
  | 0, _ => Or.inl ⟨S1, T1, cg1, k1, rg1, h0⟩
  | a + 1, ha => by
    rcases dp_all hg hL cg1 k1 rg1 h0 hp hm hD hP hi hj a (by omega) with ⟨Sa, Ta, a1, a2, a3, a4⟩ | hF
    · obtain ⟨x, s, r, hid, hr, ⟨s9, s11, s12, s13, s14⟩, f1, f2, f3, f4, f5, f6, f7⟩ := hp a (by omega)
      have hf : Sa.1 3 5 = 0 := (a4.1.2.2.2.1 3 5 (by omega) (by omega)).trans hL.2.1.2.2
      rcases dp_step (l := l) (Gr := Gr) (n := n) (w := w) (d := d) (i := i + 1 + a) (jj := j + 1 + a) hg hL a4 (by omega) (by omega) (by omega) (by omega) (by omega) f1 f2 f3 s9 s12 hr hid f4 f5 f6 f7 with ⟨S', T', c1, c2, c3, c4⟩ | hF
      · refine Or.inl ⟨S', T', CG_tr a1 c1, ?_, RG_tr a3 c3, c4⟩
        rw [← c2]
        exact kR_s a2 hf (by omega)
      · exact Or.inr (FLT_pre a1 a2 a3 (by omega) hF)
    · exact Or.inr (FLT_up hF (by omega))
/-- what a def's EXPR sees -/
theorem dp_ev (hS : LSt b t N D m A 0 0 sz mz 0 0 vw 0 256 S T) (h60 : T.1 73 60 = nI P) (h : DPS b t m e P j k S T Sa Ta) (hp : ∀ a, a < k → sPar S T (nid b t T) e i jj a) (hm : m + k ≤ 800) (hD : e + k < D) (hP : P + k ≤ 900) : LX b t N D (m + k) m (dfA A S e k) 0 0 0 sz mz Sa (mSn (zi Ta 73 47 1) m k) := by
  have hL := hS.1
  have hE := hL.1
  have hV := hS.2.2.2.2.2.2
  have hDD := hE.1.2.2.2.2
  obtain ⟨kt, kv⟩ := DPS_KT hE h hm (by omega)
  obtain ⟨⟨a1, a2, a3, a4, a5⟩, ⟨b1, b2, b3, b4, b5, b6, b7⟩, hc⟩ := h
  obtain ⟨Y, eY⟩ : ∃ Y, Y = mSn (zi Ta 73 47 1) m k := ⟨_, rfl⟩
  rw [← eY]
  have yc : ∀ c k', ¬ c = 95 → ¬ (c = 73 ∧ k' = 47) → Y.1 c k' = Ta.1 c k' := fun c k' q1 q2 => by rw [eY, mSn_c q1, zi_get, if_neg q2]
  have y47 : Y.1 73 47 = 1 := by rw [eY, mSn_c (by decide)]; exact zi_v
  have y95 : ∀ c, Y.1 95 c = if m ≤ c ∧ c < m + k then 1 else Ta.1 95 c := fun c => by rw [eY, mSn_v, zi_c (by decide)]
  have yt : ∀ c k', ¬ c = 95 → ¬ (c = 73 ∧ (k' = 34 ∨ k' = 47 ∨ (60 ≤ k' ∧ k' ≤ 63))) → ¬ ((90 ≤ c ∧ c ≤ 95) ∧ m ≤ k') → ¬ (c = 110 ∧ P ≤ k') → Y.1 c k' = T.1 c k' := fun c k' q1 q2 q3 q4 => (yc c k' q1 (by omega)).trans (b6 c k' (by omega) q3 q4)
  have hO := hE.2.2.2.1
  refine ⟨⟨kt, kv, (yc 73 34 (by omega) (by omega)).trans b1, ⟨(yt 73 9 (by omega) (by omega) (by omega) (by omega)).trans hO.1, fun v hv => ?_, fun v v' a a' q1 q2 q3 q4 q5 q6 q7 => ?_⟩, hE.2.2.2.2.1, Or.inr ⟨y47, fun v d' hv hd hdD => ?_⟩, fun v hv => ?_⟩, ⟨(a4 3 4 (by omega) (by omega)).trans hL.2.1.1, hL.2.1.2.1, (a4 3 5 (by omega) (by omega)).trans hL.2.1.2.2⟩, (a4 39 3 (by omega) (by omega)).trans hL.2.2.1, ⟨(yt 73 13 (by omega) (by omega) (by omega) (by omega)).trans hL.2.2.2.1.1, hL.2.2.2.1.2.1, (yt 73 7 (by omega) (by omega) (by omega) (by omega)).trans hL.2.2.2.1.2.2⟩, (yt 73 43 (by omega) (by omega) (by omega) (by omega)).trans hL.2.2.2.2.1, (yt 73 56 (by omega) (by omega) (by omega) (by omega)).trans hL.2.2.2.2.2⟩
  · rw [yt 76 v (by omega) (by omega) (by omega) (by omega), yt 77 v (by omega) (by omega) (by omega) (by omega)]
    exact hO.2.1 v hv
  · rw [yt 76 v (by omega) (by omega) (by omega) (by omega)] at q5
    rw [yt 76 v' (by omega) (by omega) (by omega) (by omega)] at q6
    exact hO.2.2 v v' a a' q1 q2 q3 q4 q5 q6 q7
  · by_cases y : v < m
    · rw [a4 16 v (by omega) (by omega)] at hd
      have := hV.1.2 v y
      rw [hd, nI_clamp (by omega)] at this
      rw [a4 11 d' (by omega) (by omega)]
      exact ⟨fun q => by omega, fun q => absurd q this⟩
    · obtain ⟨c, rfl⟩ : ∃ c, v = m + c := ⟨v - m, by omega⟩
      rw [a3 c (by omega)] at hd
      have ed : e + 1 + c = d' := (nI_eq (by omega) (by omega)).mp hd
      subst ed
      obtain ⟨x, s, r, hid, hr, ⟨s9, s11, s12, s13, s14⟩, -⟩ := hp c (by omega)
      rw [a4 11 _ (by omega) (by omega), s11]
      exact ⟨fun _ => rfl, fun _ => by omega⟩
  · by_cases y : v < m
    · obtain ⟨ho, h95⟩ := hE.2.2.2.2.2.2 v y
      refine ⟨EVv_p (P := P) (P' := P + k) ho (fun c k' q => a4 c k' (by omega) (by omega)) (fun c k' q => yt c k' (by omega) (by omega) (by omega) (by omega)) h60 (by omega) ((yc 73 60 (by omega) (by omega)).trans b2) (by omega) hP (fun k' hk' => yt 110 k' (by omega) (by omega) (by omega) (by omega)) (fun k' d' a hk' hd' h16 h11 hA1 hA2 => ?_), ?_⟩
      · rw [y47] at hA2
        rcases hA2 with q | q | q
        · exact absurd q (by decide)
        · have := hV.1.2 v y
          rw [h16, nI_clamp (by omega), h11, q] at this
          exact absurd rfl this
        · exact Or.inl ⟨hA1 (Or.inl hS.2.1), by rw [h11, q]; rfl⟩
      · rw [y95, if_neg (by omega), b6 95 v (by omega) (by omega) (by omega)]
        exact h95
    · obtain ⟨c, rfl⟩ : ∃ c, v = m + c := ⟨v - m, by omega⟩
      obtain ⟨x, s, r, hid, hr, ⟨s9, s11, s12, s13, s14⟩, -⟩ := hp c (by omega)
      obtain ⟨x', s', r'', q1, q2, q3, q4, q5, q6, q7, q8, q9, q10⟩ := hc c (by omega)
      have hs' : s' < t := by
        obtain ⟨_, _, _, _, _, _, _, _, y⟩ := q2
        exact y
      refine ⟨⟨e + 1 + c, s', x', 3, by omega, a3 c (by omega), hs', (a4 9 _ (by omega) (by omega)).trans q3, nid_k q2 (yt 73 9 (by omega) (by omega) (by omega) (by omega)) (fun k' => yt 76 k' (by omega) (by omega) (by omega) (by omega)), (yc 90 _ (by omega) (by omega)).trans q5, by omega, (a4 11 _ (by omega) (by omega)).trans s11, (yc 91 _ (by omega) (by omega)).trans q6, ?_, ?_, ⟨r'', q1, (a4 12 _ (by omega) (by omega)).trans q4⟩, ⟨0, by omega, (a4 13 _ (by omega) (by omega)).trans s13⟩, ⟨c, by omega, (yc 94 _ (by omega) (by omega)).trans q9, fun _ => Or.inr ⟨c, by omega, rfl, rfl⟩, fun _ => (a4 14 _ (by omega) (by omega)).trans s14⟩, fun q => by omega⟩, ?_⟩
      · rw [yc 92 _ (by omega) (by omega), a4 12 _ (by omega) (by omega), q7, q4]
      · rw [yc 93 _ (by omega) (by omega), a4 13 _ (by omega) (by omega), q8, s13]; rfl
      · rw [y95, if_pos (by omega)]
        decide
theorem NE_par {S0 : zS} (hp : ∀ a, a < k → S0.1 4 (i + a) = 4) : ∀ a, a ≤ k → NE S0 i (i + a) 0 0
  | 0, _ => NE_nil
  | a + 1, ha => NE_eq (NE_app (NE_par hp a (by omega)) (NE_1 (S := S0) (e1 := 0) (e2 := 0) (hp a (by omega)) (by decide) (by decide) (by decide))) (by omega) (by omega)
end ITE
