/-! both circuits side by side: xor, and, or, mux -/
/-- the class alone: room, full stays full -/
def COKx (S S' : zS) : Prop := GK S' ∧ (¬ S.1 24 7 = 0 → ¬ S'.1 24 7 = 0) ∧ KX S S'
/-- both: alike, or both have told that there is no room -/
def RL (S T : zS) : Prop := GK S ∧ MW T ∧ ((S.1 24 7 = 0 ∧ T.1 73 7 = 0 ∧ CEQ S T) ∨ (¬ S.1 24 7 = 0 ∧ T.1 73 7 = 8 ∧ T.1 73 8 = mPla T))
def LQ (S T : zS) (x x' : Int32) : Prop := VL T x' ∧ (S.1 24 7 = 0 → x = x')
section CRX
variable {S S' S'' T T' T'' : zS} {x y a h v c x' y' c' pl : Int32} {g k : Nat}
theorem COKx_rfl (h : GK S) : COKx S S := ⟨h, fun q => q, KX_rfl⟩
theorem COKx_tr (h1 : COKx S S') (h2 : COKx S' S'') : COKx S S'' := ⟨h2.1, fun q => h2.2.1 (h1.2.1 q), KX_tr h1.2.2 h2.2.2⟩
theorem k_ng (hG : GK S) : COKx S (kNG S x y a h).2 := by
  refine ⟨GK_ng hG, fun q => ?_, ?_⟩
  · unfold kNG
    rw [if_pos (Or.inl q)]
    show ¬ (zi S 24 7 1).1 24 7 = 0
    rw [zi_v]
    decide
  · unfold kNG
    by_cases z : kNGf S h
    · rw [if_pos z]
      exact ⟨fun c k q1 q2 => by
        show (zi S 24 7 1).1 c k = _
        rw [zi_get, if_neg (by omega)], fun _ _ => rfl⟩
    · rw [if_neg z]
      refine ⟨fun c k q1 q2 => ?_, fun _ _ => rfl⟩
      show (kNGs S x y a h).1 c k = _
      unfold kNGs
      rw [zi_get, if_neg (by omega), zi_get, if_neg (by omega), zi_get, if_neg (by omega), zi_get, if_neg (by omega), zi_get, if_neg (by omega), zi_get, if_neg (by omega), zi_get, if_neg (by omega), zi_get, if_neg (by omega)]
theorem k_xor (hG : GK S) : COKx S (kXor S x y).2 := by
  unfold kXor
  split
  · exact COKx_rfl hG
  · split
    · exact COKx_rfl hG
    · split
      · exact COKx_rfl hG
      · exact k_ng hG
theorem k_and (hG : GK S) : COKx S (kAnd S x y).2 := by
  unfold kAnd
  split
  · exact COKx_rfl hG
  · split
    · exact COKx_rfl hG
    · split
      · exact COKx_rfl hG
      · exact k_ng hG
theorem m_xor (hW : MW T) (hx : VL T x) (hy : VL T y) : MOK T (mXor T x y).2 ∧ VL (mXor T x y).2 (mXor T x y).1 ∧ mPla (mXor T x y).2 = mPla T := by
  unfold mXor
  split
  · exact ⟨MOK_rfl hW, VL_x hy, rfl⟩
  · split
    · exact ⟨MOK_rfl hW, VL_x hx, rfl⟩
    · split
      · refine ⟨MOK_rfl hW, Or.inl ?_, rfl⟩
        rcases and1 (x ^^^ y) with e | e
        · show ¬ 0 ≤ (-2) + ((x ^^^ y) &&& 1)
          rw [e]; decide
        · show ¬ 0 ≤ (-2) + ((x ^^^ y) &&& 1)
          rw [e]; decide
      · have := m_ng (a := 0) (x := x &&& (-2)) (y := y &&& (-2)) (h := mMx (mLv T x) (mLv T y)) hW (Or.inl rfl)
        exact ⟨this.1, VL_x this.2.1, this.2.2⟩
theorem m_and (hW : MW T) (hx : VL T x) (hy : VL T y) : MOK T (mAnd T x y).2 ∧ VL (mAnd T x y).2 (mAnd T x y).1 ∧ mPla (mAnd T x y).2 = mPla T := by
  have neg : VL T (-2) := Or.inl (show ¬ (0 : Int32) ≤ -2 by decide)
  unfold mAnd
  split
  · refine ⟨MOK_rfl hW, ?_, rfl⟩
    show VL T (if x = -1 then y else -2)
    split
    · exact hy
    · exact neg
  · split
    · refine ⟨MOK_rfl hW, ?_, rfl⟩
      show VL T (if y = -1 then x else -2)
      split
      · exact hx
      · exact neg
    · split
      · refine ⟨MOK_rfl hW, ?_, rfl⟩
        show VL T (if x = y then x else -2)
        split
        · exact hx
        · exact neg
      · exact m_ng hW (Or.inr rfl)
theorem mx_eq : ip_max x y = mMx x y := by
  unfold ip_max mMx
  by_cases z : x < y
  · rw [if_pos z, if_pos (Int32.le_of_lt z)]
  · rw [if_neg z]
    by_cases q : x ≤ y
    · rw [if_pos q]
      exact Int32.le_antisymm q (Int32.not_lt.mp z)
    · rw [if_neg q]
/-- a new gate on both sides, alike before -/
theorem r_ng (hC : CEQ S T) (h7 : S.1 24 7 = 0) (h73 : T.1 73 7 = 0) (ha : a = 0 ∨ a = 1) (hxy : ∀ iw g, T.1 73 65 = nI iw → T.1 73 66 = nI g → iw ≤ 8192 → g ≤ 40000 → (∃ a', a' < 2 * (iw + g) ∧ x = nI a') ∧ ∃ b', b' < 2 * (iw + g) ∧ y = nI b') (hh : ∃ L, L ≤ 100000 ∧ h = nI L ∧ (a = 1 → 1 ≤ L)) : (kNG S x y a h).1 = (mNG T a x y h).1 ∧ (((kNG S x y a h).2.1 24 7 = 0 ∧ (mNG T a x y h).2.1 73 7 = 0 ∧ CEQ (kNG S x y a h).2 (mNG T a x y h).2) ∨ (¬ (kNG S x y a h).2.1 24 7 = 0 ∧ (mNG T a x y h).2.1 73 7 = 8 ∧ (mNG T a x y h).2.1 73 8 = mPla T)) := by
  obtain ⟨g, iw, hg, hi, h4, h66, h8, h65, h5, h67, h6, ⟨Dm, hDm, h68⟩, hr⟩ := hC
  have same : kNGf S h ↔ mNGf T h := by
    refine ⟨fun q => q.elim (fun q => absurd h7 q) (fun q => q.elim (fun q => Or.inl ?_) Or.inr), fun q => Or.inr (q.elim (fun q => Or.inl ?_) Or.inr)⟩
    · rw [h4] at q
      have := (nI_leI (a := 40000) (b := g) (by omega) (by omega)).mp q
      rw [h66, show g = 40000 by omega]
      rfl
    · rw [h66] at q
      have := (nI_eq (a := g) (b := 40000) (by omega) (by omega)).mp q
      rw [h4, this]
      exact Int32.le_refl _
  unfold kNG mNG
  by_cases z : kNGf S h
  · rw [if_pos z, if_pos (same.mp z)]
    refine ⟨rfl, Or.inr ⟨?_, ?_, ?_⟩⟩
    · show ¬ (zi S 24 7 1).1 24 7 = 0
      rw [zi_v]; decide
    · show (mT T 8 (mPla T)).1 73 7 = 8
      unfold mT
      rw [if_pos h73]
      exact mF_f.1
    · show (mT T 8 (mPla T)).1 73 8 = mPla T
      unfold mT
      rw [if_pos h73]
      exact mF_f.2
  · rw [if_neg z, if_neg (fun q => z (same.mpr q))]
    have hlt : g < 40000 := by
      by_cases q : g < 40000
      · exact q
      · exact absurd (Or.inr (Or.inl (by rw [h4]; exact nI_le (a := 40000) (b := g) (by omega) (by omega)))) z
    obtain ⟨X, eX⟩ : ∃ X, X = kNGs S x y a h := ⟨_, rfl⟩
    obtain ⟨Y, eY⟩ : ∃ Y, Y = mNGs T a x y h := ⟨_, rfl⟩
    show 2 * ((S.1 24 8 + (S.1 24 4 + 1)) - 1) = 2 * ((T.1 73 65 + (T.1 73 66 + 1)) - 1) ∧ ((((kNGs S x y a h).1 24 7 = 0 ∧ (mNGs T a x y h).1 73 7 = 0 ∧ CEQ (kNGs S x y a h) (mNGs T a x y h)) ∨ _))
    rw [← eX, ← eY]
    have eS : X = zi (zi (zi (zi (zi (zi (zi (zi S 24 7 0) 25 g x) 26 g y) 27 g h) 28 g (if a = 0 then -1 else S.1 24 5)) 24 5 (S.1 24 5 + (if a = 0 then 0 else 1))) 24 6 (ip_max (S.1 24 6) h)) 24 4 (nI (g + 1)) := by
      rw [eX]
      unfold kNGs
      rw [h4, nI_clamp (by omega), nI_1]
    have eT : Y = zi (zi (zi (zi (zi (zi (zi T 111 g a) 112 g h) 113 g x) 114 g y) 73 66 (nI (g + 1))) 73 67 (T.1 73 67 + a)) 73 68 (if h ≤ T.1 73 68 then T.1 73 68 else h) := by
      rw [eY]
      unfold mNGs
      rw [h66, nI_clamp (by omega), nI_1]
    have sk : ∀ c k, ¬ (c = 24 ∧ 4 ≤ k ∧ k ≤ 7) → ¬ ((25 ≤ c ∧ c ≤ 28) ∧ k = g) → X.1 c k = S.1 c k := fun c k q1 q2 => by
      rw [eS, zi_get, if_neg (by omega), zi_get, if_neg (by omega), zi_get, if_neg (by omega), zi_get, if_neg (by omega), zi_get, if_neg (by omega), zi_get, if_neg (by omega), zi_get, if_neg (by omega), zi_get, if_neg (by omega)]
    have tk : ∀ c k, ¬ (c = 73 ∧ (k = 66 ∨ k = 67 ∨ k = 68)) → ¬ ((111 ≤ c ∧ c ≤ 114) ∧ k = g) → Y.1 c k = T.1 c k := fun c k q1 q2 => by
      rw [eT, zi_get, if_neg (by omega), zi_get, if_neg (by omega), zi_get, if_neg (by omega), zi_get, if_neg (by omega), zi_get, if_neg (by omega), zi_get, if_neg (by omega), zi_get, if_neg (by omega)]
    have sv : X.1 24 4 = nI (g + 1) ∧ X.1 24 5 = S.1 24 5 + (if a = 0 then 0 else 1) ∧ X.1 24 6 = ip_max (S.1 24 6) h ∧ X.1 24 7 = 0 ∧ X.1 25 g = x ∧ X.1 26 g = y ∧ X.1 27 g = h ∧ X.1 28 g = (if a = 0 then -1 else S.1 24 5) := by
      rw [eS]
      refine ⟨zi_v, ?_, ?_, ?_, ?_, ?_, ?_, ?_⟩
      · rw [zi_k (by decide), zi_k (by decide)]; exact zi_v
      · rw [zi_k (by decide)]; exact zi_v
      · rw [zi_k (by decide), zi_k (by decide), zi_k (by decide), zi_c (by decide), zi_c (by decide), zi_c (by decide), zi_c (by decide)]; exact zi_v
      · rw [zi_c (by decide), zi_c (by decide), zi_c (by decide), zi_c (by decide), zi_c (by decide), zi_c (by decide)]; exact zi_v
      · rw [zi_c (by decide), zi_c (by decide), zi_c (by decide), zi_c (by decide), zi_c (by decide)]; exact zi_v
      · rw [zi_c (by decide), zi_c (by decide), zi_c (by decide), zi_c (by decide)]; exact zi_v
      · rw [zi_c (by decide), zi_c (by decide), zi_c (by decide)]; exact zi_v
    have tv : Y.1 73 66 = nI (g + 1) ∧ Y.1 73 67 = T.1 73 67 + a ∧ Y.1 73 68 = (if h ≤ T.1 73 68 then T.1 73 68 else h) ∧ Y.1 111 g = a ∧ Y.1 112 g = h ∧ Y.1 113 g = x ∧ Y.1 114 g = y := by
      rw [eT]
      refine ⟨?_, ?_, zi_v, ?_, ?_, ?_, ?_⟩
      · rw [zi_k (by decide), zi_k (by decide)]; exact zi_v
      · rw [zi_k (by decide)]; exact zi_v
      · rw [zi_c (by decide), zi_c (by decide), zi_c (by decide), zi_c (by decide), zi_c (by decide), zi_c (by decide)]; exact zi_v
      · rw [zi_c (by decide), zi_c (by decide), zi_c (by decide), zi_c (by decide), zi_c (by decide)]; exact zi_v
      · rw [zi_c (by decide), zi_c (by decide), zi_c (by decide), zi_c (by decide)]; exact zi_v
      · rw [zi_c (by decide), zi_c (by decide), zi_c (by decide)]; exact zi_v
    have cn : ∀ k, k ≤ g → cAn Y k = cAn T k := fun k => by
      induction k with
      | zero => intro _; rfl
      | succ k ih =>
        intro hk
        show cAn Y k + Y.1 111 k = cAn T k + T.1 111 k
        rw [ih (by omega), tk 111 k (by omega) (by omega)]
    obtain ⟨⟨a', ha', ex⟩, b', hb', ey⟩ := hxy iw g h65 h66 hi hg
    obtain ⟨L, hL, eh, hL1⟩ := hh
    have hL2 : L ≤ 2000 := by
      by_cases q : L ≤ 2000
      · exact q
      · exact absurd (Or.inr (Or.inr (by rw [eh]; exact nI_ge (a := 2000) (b := L) (by omega) (by omega)))) z
    obtain ⟨Dm', hDm', e68, hLD, hDD⟩ : ∃ Dm', Dm' ≤ 2000 ∧ Y.1 73 68 = nI Dm' ∧ L ≤ Dm' ∧ Dm ≤ Dm' := by
      by_cases q : L ≤ Dm
      · exact ⟨Dm, hDm, by rw [tv.2.2.1, h68, eh, if_pos (nI_le q (by omega))], q, Nat.le_refl _⟩
      · exact ⟨L, hL2, by rw [tv.2.2.1, h68, eh, if_neg (nI_ge (a := Dm) (b := L) (by omega) (by omega))], Nat.le_refl _, by omega⟩
    have hD2 : ∃ Dm, Dm ≤ 2000 ∧ Y.1 73 68 = nI Dm := ⟨Dm', hDm', e68⟩
    have ae : (if a = 0 then (0 : Int32) else 1) = a := by
      rcases ha with e | e <;> subst e <;> decide
    refine ⟨by rw [h8, h65, h4, h66], Or.inl ⟨sv.2.2.2.1, (tk 73 7 (by omega) (by omega)).trans h73, g + 1, iw, by omega, hi, sv.1, tv.1, (sk 24 8 (by omega) (by omega)).trans h8, (tk 73 65 (by omega) (by omega)).trans h65, ?_, ?_, ?_, hD2, fun k hk => ?_⟩⟩
    · rw [sv.2.1, tv.2.1, h5, ae]
    · rw [tv.2.1]
      show _ = cAn Y g + Y.1 111 g
      rw [cn g (Nat.le_refl _), tv.2.2.2.1, h67]
    · rw [sv.2.2.1, tv.2.2.1, h6]
      unfold ip_max
      by_cases q : T.1 73 68 < h
      · rw [if_pos q, if_neg (fun y => absurd q (Int32.not_lt.mpr y))]
      · rw [if_neg q, if_pos (Int32.not_lt.mp q)]
    · by_cases q : k = g
      · subst q
        rw [sv.2.2.2.2.1, sv.2.2.2.2.2.1, sv.2.2.2.2.2.2.1, sv.2.2.2.2.2.2.2, tv.2.2.2.1, tv.2.2.2.2.1, tv.2.2.2.2.2.1, tv.2.2.2.2.2.2, cn k (Nat.le_refl _), h5, h67]
        refine ⟨⟨rfl, rfl, rfl, rfl⟩, ?_⟩
        unfold WG1
        rw [tv.2.2.2.1, tv.2.2.2.2.1, tv.2.2.2.2.2.1, tv.2.2.2.2.2.2]
        exact ⟨ha, ⟨a', ha', ex⟩, ⟨b', hb', ey⟩, L, Dm', hLD, hDm', eh, e68, hL1⟩
      · have := hr k (by omega)
        rw [sk 25 k (by omega) (by omega), sk 26 k (by omega) (by omega), sk 27 k (by omega) (by omega), sk 28 k (by omega) (by omega), tk 113 k (by omega) (by omega), tk 114 k (by omega) (by omega), tk 112 k (by omega) (by omega), tk 111 k (by omega) (by omega), cn k (by omega)]
        refine ⟨this.1, ?_⟩
        have wg := this.2
        unfold WG1 at wg ⊢
        rw [tk 111 k (by omega) (by omega), tk 112 k (by omega) (by omega), tk 113 k (by omega) (by omega), tk 114 k (by omega) (by omega)]
        obtain ⟨g1, g2, g3, L', Dq, g4, g5, g6, g7, g8⟩ := wg
        have eq : Dq = Dm := (nI_eq (by omega) (by omega)).mp (g7.symm.trans h68)
        exact ⟨g1, g2, g3, L', Dm', by omega, hDm', g6, e68, g8⟩
theorem lv_eq (hC : CEQ S T) (hx : VL T x) (h0 : 0 ≤ x) : kLv S x = mLv T x := by
  obtain ⟨g, iw, hg, hi, h4, h66, h8, h65, h5, h67, h6, ⟨Dm, hDm, h68⟩, hr⟩ := hC
  rcases hx with hx | hx
  · exact absurd h0 hx
  · unfold kLv mLv
    rw [h8, h4, if_neg (Int32.not_lt.mpr h0), h65]
    rw [h65, h66] at hx
    by_cases z : (x >>> (1 &&& 31)) - nI iw < 0
    · rw [if_pos (Or.inl z), if_neg (fun q => absurd z (Int32.not_lt.mpr q))]
    · rw [if_neg (fun q => q.elim z (fun q => q hx)), if_pos (Int32.not_lt.mp z)]
      obtain ⟨k, hk, e⟩ := nI_inn z hx (by omega)
      rw [e, nI_clamp (by omega)]
      exact (hr k hk).1.2.2.1
theorem lv_nat (hC : CEQ S T) (hx : VL T x) : ∃ L, L ≤ 2000 ∧ mLv T x = nI L := by
  obtain ⟨g, iw, hg, hi, h4, h66, h8, h65, h5, h67, h6, ⟨Dm, hDm, h68⟩, hr⟩ := hC
  unfold mLv
  by_cases z : x < 0
  · rw [if_pos z]
    exact ⟨0, by omega, rfl⟩
  · rw [if_neg z]
    by_cases z2 : (0 : Int32) ≤ (x >>> (1 &&& 31)) - T.1 73 65
    · rw [if_pos z2]
      rcases hx with hx | hx
      · exact absurd (Int32.not_lt.mp z) hx
      · rw [h66] at hx
        obtain ⟨k, hk, e⟩ := nI_inn (Int32.not_lt.mpr z2) hx (by omega)
        rw [e, nI_clamp (by omega)]
        obtain ⟨-, -, -, L, Dq, q1, q2, q3, -⟩ := (hr k hk).2
        exact ⟨L, by omega, q3⟩
    · rw [if_neg z2]
      exact ⟨0, by omega, rfl⟩
theorem mMx_nat {a b : Nat} (ha : a ≤ 100000) (hb : b ≤ 100000) : mMx (nI a) (nI b) = nI (max a b) := by
  unfold mMx
  by_cases q : a ≤ b
  · rw [if_pos (nI_le q (by omega)), show max a b = b by omega]
  · rw [if_neg (nI_ge (a := b) (b := a) (by omega) (by omega)), show max a b = a by omega]
end CRX
