/-! SORTS of statements on both sides: var -/
section STV
variable {l : Launch} {Gr : zG} {n w : Nat} {d : Nat} {A : Nat → Nat → Prop} {b : Nat → Int32} {t N D m tp mp sz mz sc u vw vw' lo hi p q i i' i1 i2 j j' j1 j2 x K hd e a r r' pb z vv p1 s k : Nat} {S0 T0 S S' S'' T T' T'' : zS}
/-- a NAME that comes must not be visible -/
theorem st_in (h : LSt b t N D m A tp mp sz mz sc u vw lo hi S T) (s6 : S.1 6 i = nI s) (t2 : T.1 79 j = nI x) (t3 : T.1 81 j = nI s) (hid : nid b t T x s) (he : e < D) (h9 : S.1 9 e = nI s) : (kIn b t S i = S ∧ mComs T j m = T ∧ (∀ v, v < m → ¬ S.1 16 v = nI e) ∧ (∀ a, ¬ A e a) ∧ m < 800) ∨ (kIn b t S i = kT S 4 (nI s) ∧ mComs T j m = mF T 4 (nI s)) := by
  have hE := h.1.1
  have ht := hE.1.2.1
  have hp : s < t := by
    obtain ⟨_, _, _, _, _, _, _, _, y⟩ := hid
    exact y
  have ep : (S.1 6 i).toNatClampNeg = s := by rw [s6]; exact nI_clamp (by omega)
  have hD := hE.1.2.2.2.2
  have hm := hE.2.1.2.1
  rcases kFind_eq hE hid with ⟨e1, e2⟩ | ⟨v, dd, hv, hd, e16, e1, e2, ec⟩
  · left
    refine ⟨by unfold kIn; rw [ep, if_pos e1], by unfold mComs; rw [t2, if_pos e2], nvis hE h.2.2.2.2.2.2 e1 he h9 (by omega)⟩
  · right
    refine ⟨by unfold kIn; rw [ep, e1, if_neg (nI_no (by omega)), s6], by unfold mComs; rw [t2, e2, if_neg (nI_no (by omega)), t3]⟩
/-- one NAME more is visible on both sides -/
theorem st_sh (h : LSt b t N D m A tp mp sz mz sc u vw lo hi S T) (he : e < D) (h9 : S.1 9 e = nI s) (hid : nid b t T x s) (hk : k ≤ 2) (h11 : S.1 11 e = nI k) (hr : r ≤ 1) (h12 : S.1 12 e = nI r) (hz : z ≤ 64) (h13 : S.1 13 e = nI z) (ha : a < 12000) (h14 : ¬ k = 2 → S.1 14 e = nI a) (hav : k = 1 → a + max 1 z ≤ vw) (hnv : ∀ v, v < m → ¬ S.1 16 v = nI e) (hm : m < 800) :
    LSt b t N D (m + 1) (adA A e a) tp mp sz mz sc u vw lo hi (kShow S (nI e)) (mSy T m (nI x) (nI (k + 1)) (nI r) (nI z) (nI a)) ∧ (∀ c k', ¬ (c = 8 ∧ k' = 11) → ¬ (c = 16 ∧ k' = m) → (kShow S (nI e)).1 c k' = S.1 c k') ∧ (∀ c k', (kShow S (nI e)).2 c k' = S.2 c k') ∧ (∀ c k', ¬ (c = 73 ∧ k' = 34) → ¬ ((90 ≤ c ∧ c ≤ 95) ∧ k' = m) → (mSy T m (nI x) (nI (k + 1)) (nI r) (nI z) (nI a)).1 c k' = T.1 c k') ∧ (∀ c k', (mSy T m (nI x) (nI (k + 1)) (nI r) (nI z) (nI a)).2 c k' = T.2 c k') := by
  have hL := h.1
  have hE := hL.1
  have hs : s < t := by
    obtain ⟨_, _, _, _, _, _, _, _, y⟩ := hid
    exact y
  have e8 : kShow S (nI e) = zi (zi S 8 11 (nI (m + 1))) 16 m (nI e) := by
    unfold kShow
    rw [hE.2.1.1, nI_1, nI_clamp (by omega)]
  have x3 : ∀ c k', ¬ (c = 8 ∧ k' = 11) → ¬ (c = 16 ∧ k' = m) → (kShow S (nI e)).1 c k' = S.1 c k' := fun c k' q1 q2 => by rw [e8, zi_get, if_neg q2, zi_get, if_neg q1]
  have x32 : ∀ c k', (kShow S (nI e)).2 c k' = S.2 c k' := fun _ _ => rfl
  obtain ⟨Y, eY⟩ : ∃ Y, Y = mSy T m (nI x) (nI (k + 1)) (nI r) (nI z) (nI a) := ⟨_, rfl⟩
  have y3 : ∀ c k', ¬ (c = 73 ∧ k' = 34) → ¬ ((90 ≤ c ∧ c ≤ 95) ∧ k' = m) → Y.1 c k' = T.1 c k' := fun c k' q1 q2 => by
    rw [eY]
    unfold mSy
    rw [zi_get, if_neg q1, zi_get, if_neg (by omega), zi_get, if_neg (by omega), zi_get, if_neg (by omega), zi_get, if_neg (by omega), zi_get, if_neg (by omega), zi_get, if_neg (by omega)]
  have y32 : ∀ c k', Y.2 c k' = T.2 c k' := fun _ _ => by rw [eY]; rfl
  have yv : Y.1 73 34 = nI (m + 1) ∧ Y.1 90 m = nI x ∧ Y.1 91 m = nI (k + 1) ∧ Y.1 92 m = nI r ∧ Y.1 93 m = nI z ∧ Y.1 94 m = nI a ∧ Y.1 95 m = 1 := by
    rw [eY]
    unfold mSy
    refine ⟨zi_v, ?_, ?_, ?_, ?_, ?_, ?_⟩
    · rw [zi_c (by decide), zi_c (by decide), zi_c (by decide), zi_c (by decide), zi_c (by decide), zi_c (by decide)]; exact zi_v
    · rw [zi_c (by decide), zi_c (by decide), zi_c (by decide), zi_c (by decide), zi_c (by decide)]; exact zi_v
    · rw [zi_c (by decide), zi_c (by decide), zi_c (by decide), zi_c (by decide)]; exact zi_v
    · rw [zi_c (by decide), zi_c (by decide), zi_c (by decide)]; exact zi_v
    · rw [zi_c (by decide), zi_c (by decide)]; exact zi_v
    · rw [zi_c (by decide)]; exact zi_v
  rw [← eY]
  have n16 : (kShow S (nI e)).1 16 m = nI e := by rw [e8]; exact zi_v
  have n11 : (kShow S (nI e)).1 8 11 = nI (m + 1) := by rw [e8, zi_c (by decide)]; exact zi_v
  have sn : ∀ cc, 9 ≤ cc → cc ≤ 15 → (kShow S (nI e)).1 cc e = S.1 cc e := fun cc q1 q2 => x3 cc e (by omega) (by omega)
  have hn : EVv b t D (adA A e a) (kShow S (nI e)) Y m := by
    refine ⟨e, s, x, k, he, n16, hs, (sn 9 (by omega) (by omega)).trans h9, nid_k hid (y3 73 9 (by omega) (by omega)) (fun k' => y3 76 k' (by omega) (by omega)), yv.2.1, by omega, (sn 11 (by omega) (by omega)).trans h11, yv.2.2.1, ?_, ?_, ⟨r, hr, (sn 12 (by omega) (by omega)).trans h12⟩, ⟨z, hz, (sn 13 (by omega) (by omega)).trans h13⟩, ⟨a, ha, yv.2.2.2.2.2.1, fun _ => Or.inr ⟨rfl, rfl⟩, fun q => ?_⟩, fun q => by omega⟩
    · rw [yv.2.2.2.1, sn 12 (by omega) (by omega)]; exact h12.symm
    · rw [yv.2.2.2.2.1, sn 13 (by omega) (by omega)]; exact h13.symm
    · rw [sn 14 (by omega) (by omega)]; exact h14 (by omega)
  refine ⟨LSt_add (i1 := 0) (i2 := 0) (j1 := 0) (j2 := 0) h ⟨fun c k' q1 q2 q3 q4 q5 q6 q7 q8 q9 => x3 c k' q3 (by omega), x32⟩ ⟨fun c k' q1 q2 q3 q4 q5 q6 => y3 c k' (by omega) (by omega), y32⟩ hm hnv n11 yv.1 n16 hn (by rw [yv.2.2.2.2.2.2]; decide) (by have := hE.1.2.2.2.2; omega) (by rw [sn 11 (by omega) (by omega), h11]; exact fun y => by have := (nI_eq (a := k) (b := 3) (by omega) (by omega)).mp y; omega) (fun q => ⟨z, hz, (sn 13 (by omega) (by omega)).trans h13, hav ?_⟩) ((x3 3 5 (by omega) (by omega)).trans hL.2.1.2.2) ((x3 39 3 (by omega) (by omega)).trans hL.2.2.1) ((y3 73 7 (by omega) (by omega)).trans hL.2.2.2.1.2.2) ((y3 73 43 (by omega) (by omega)).trans hL.2.2.2.2.1) ((y3 73 56 (by omega) (by omega)).trans hL.2.2.2.2.2) (Nat.le_refl _) ((x3 39 5 (by omega) (by omega)).trans h.2.2.1.1) ((y3 73 49 (by omega) (by omega)).trans h.2.2.1.2) ((x3 39 9 (by omega) (by omega)).trans h.2.2.2.1.1) ((x3 39 10 (by omega) (by omega)).trans h.2.2.2.2.1.1) ⟨Nat.le_refl _, h.2.2.2.2.1.2⟩ (BDS_k h.2.2.2.2.2.1 (fun k' => ⟨x3 43 k' (by omega) (by omega), x3 44 k' (by omega) (by omega)⟩)), x3, x32, y3, y32⟩
  rw [sn 11 (by omega) (by omega), h11] at q
  exact (nI_eq (a := k) (b := 1) (by omega) (by omega)).mp q
theorem KSc_sh {Y : zS} (hx : ∀ c k, ¬ (c = 8 ∧ k = 11) → ¬ (c = 16 ∧ k = m) → Y.1 c k = S.1 c k) (h2 : ∀ c k, Y.2 c k = S.2 c k) : KSc S Y i i' m sc u := ⟨fun c k q1 q2 q3 q4 q5 q6 q7 q8 q9 => hx c k q3 (fun y => q4 ⟨y.1, by omega⟩), h2⟩
theorem KSm_sh {Y : zS} (hx : ∀ c k, ¬ (c = 73 ∧ k = 34) → ¬ ((90 ≤ c ∧ c ≤ 95) ∧ k = m) → Y.1 c k = T.1 c k) (h2 : ∀ c k, Y.2 c k = T.2 c k) : KSm T Y j j' m sc := ⟨fun c k q1 q2 q3 q4 q5 q6 => hx c k (fun y => q1 ⟨y.1, by omega⟩) (fun y => q5 ⟨by omega, by omega⟩), h2⟩
/-- only the pile's height and the stack's have changed -/
theorem LSt_pop {S' T' : zS} (h : LSt b t N D m A tp mp sz mz sc u vw lo hi S T) (hx : ∀ c k, ¬ (c = 39 ∧ k = 3) → S'.1 c k = S.1 c k) (hx2 : ∀ c k, S'.2 c k = S.2 c k) (hy : ∀ c k, ¬ (c = 73 ∧ k = 43) → T'.1 c k = T.1 c k) (hy2 : ∀ c k, T'.2 c k = T.2 c k) {tp' mp' : Nat} (e3 : S'.1 39 3 = nI tp') (e43 : T'.1 73 43 = nI mp') : LSt b t N D m A tp' mp' sz mz sc u vw lo hi S' T' :=
  LSt_nt (i := 0) (i' := 0) (jj := 0) h (fun c k _ q2 _ => hx c k q2) hx2 (fun c k q1 _ => hy c k q1) hy2 e3 e43 (BDS_k h.2.2.2.2.2.1 (fun k => ⟨hx 43 k (by omega), hx 44 k (by omega)⟩))
end STV
