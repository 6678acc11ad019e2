/-! a CHOICE that is being read: operators that wait, and EXPRs between them -/
section SGC
variable {b : Nat → Int32} {t q N : Nat}
theorem mSg_MK {j0 m0 : Nat} : ∀ u (T : zS) j dp m, j0 ≤ j → MK b t T (mSg u T j dp m) j0 m0
  | 0, T, j, dp, m, _ => MK_rfl
  | u + 1, T, j, dp, m, h => MK_tr (MK_tr (MK_tr (MK_zi (by omega)) (MK_zi (by omega))) (MK_mP h)) (mSg_MK u _ (j + 1) (dp - 1) (m - 1) (by omega))
theorem mSg_MC : ∀ u (T : zS) j dp m, MC b t q j dp m N T → u ≤ m → u ≤ dp → MC b t q (j + u) (dp - u) (m - u) N (mSg u T j dp m)
  | 0, T, j, dp, m, h, _, _ => h
  | u + 1, T, j, dp, m, h, h1, h2 => by
    have := mSg_MC u _ (j + 1) (dp - 1) (m - 1) (MC_mP (x1 := 12) (x2 := T.1 84 (m - 1)) (x3 := 0) (x4 := T.1 85 (m - 1)) (MC_dp (d' := dp - 1) (MC_m (m' := m - 1) h))) (by omega) (by omega)
    rw [show j + 1 + u = j + (u + 1) by omega, show m - 1 - u = m - (u + 1) by omega, show dp - 1 - u = dp - (u + 1) by omega] at this
    exact this
theorem mSg_r : ∀ u (T : zS) j dp m, ∀ k, k < u → (mSg u T j dp m).1 78 (j + k) = 12 ∧ (mSg u T j dp m).1 79 (j + k) = T.1 84 (m - 1 - k) ∧ (mSg u T j dp m).1 81 (j + k) = T.1 85 (m - 1 - k)
  | 0, T, j, dp, m, k, h => absurd h (Nat.not_lt_zero k)
  | u + 1, T, j, dp, m, k, h => by
    obtain ⟨Y, eY⟩ : ∃ Y, Y = mP (zi (zi T 73 20 (nI (m - 1))) 73 19 (nI (dp - 1))) j 12 (T.1 84 (m - 1)) 0 (T.1 85 (m - 1)) := ⟨_, rfl⟩
    have e : mSg (u + 1) T j dp m = mSg u Y (j + 1) (dp - 1) (m - 1) := by rw [eY]; rfl
    rw [e]
    by_cases z : k = 0
    · subst z
      have mk := (mSg_MK (b := fun _ => 0) (t := 0) (j0 := j + 1) (m0 := 0) u Y (j + 1) (dp - 1) (m - 1) (Nat.le_refl _)).1 j (Nat.zero_le _) (by omega)
      have r := mP_r (T := zi (zi T 73 20 (nI (m - 1))) 73 19 (nI (dp - 1))) (j0 := j) (x1 := 12) (x2 := T.1 84 (m - 1)) (x3 := 0) (x4 := T.1 85 (m - 1))
      rw [← eY] at r
      exact ⟨mk.1.trans r.1, mk.2.1.trans r.2.1, mk.2.2.2.1.trans r.2.2.2⟩
    · have := mSg_r u Y (j + 1) (dp - 1) (m - 1) (k - 1) (by omega)
      rw [show j + 1 + (k - 1) = j + k by omega, show m - 1 - 1 - (k - 1) = m - 1 - k by omega] at this
      have y84 : Y.1 84 (m - 1 - k) = T.1 84 (m - 1 - k) := by rw [eY, mP_c (by decide), zi_c (by decide), zi_c (by decide)]
      have y85 : Y.1 85 (m - 1 - k) = T.1 85 (m - 1 - k) := by rw [eY, mP_c (by decide), zi_c (by decide), zi_c (by decide)]
      rw [y84, y85] at this
      exact this
theorem mCo_MK {j0 m0 : Nat} : ∀ u (T : zS) j dp m, j0 ≤ j → MK b t T (mCo u T j dp m) j0 m0
  | 0, T, j, dp, m, _ => MK_rfl
  | u + 1, T, j, dp, m, h => MK_tr (MK_tr (MK_tr (MK_zi (by omega)) (MK_zi (by omega))) (MK_mP h)) (mCo_MK u _ (j + 1) (dp - 1) (m - 1) (by omega))
theorem mCo_MC : ∀ u (T : zS) j dp m, MC b t q j dp m N T → u ≤ m → u ≤ dp → MC b t q (j + u) (dp - u) (m - u) N (mCo u T j dp m)
  | 0, T, j, dp, m, h, _, _ => h
  | u + 1, T, j, dp, m, h, h1, h2 => by
    have := mCo_MC u _ (j + 1) (dp - 1) (m - 1) (MC_mP (x1 := 14) (x2 := 0) (x3 := 0) (x4 := T.1 85 (m - 1)) (MC_dp (d' := dp - 1) (MC_m (m' := m - 1) h))) (by omega) (by omega)
    rw [show j + 1 + u = j + (u + 1) by omega, show m - 1 - u = m - (u + 1) by omega, show dp - 1 - u = dp - (u + 1) by omega] at this
    exact this
theorem mCo_r : ∀ u (T : zS) j dp m, ∀ k, k < u → (mCo u T j dp m).1 78 (j + k) = 14 ∧ (mCo u T j dp m).1 81 (j + k) = T.1 85 (m - 1 - k)
  | 0, T, j, dp, m, k, h => absurd h (Nat.not_lt_zero k)
  | u + 1, T, j, dp, m, k, h => by
    obtain ⟨Y, eY⟩ : ∃ Y, Y = mP (zi (zi T 73 20 (nI (m - 1))) 73 19 (nI (dp - 1))) j 14 0 0 (T.1 85 (m - 1)) := ⟨_, rfl⟩
    have e : mCo (u + 1) T j dp m = mCo u Y (j + 1) (dp - 1) (m - 1) := by rw [eY]; rfl
    rw [e]
    by_cases z : k = 0
    · subst z
      have mk := (mCo_MK (b := fun _ => 0) (t := 0) (j0 := j + 1) (m0 := 0) u Y (j + 1) (dp - 1) (m - 1) (Nat.le_refl _)).1 j (Nat.zero_le _) (by omega)
      have r := mP_r (T := zi (zi T 73 20 (nI (m - 1))) 73 19 (nI (dp - 1))) (j0 := j) (x1 := 14) (x2 := 0) (x3 := 0) (x4 := T.1 85 (m - 1))
      rw [← eY] at r
      exact ⟨mk.1.trans r.1, mk.2.2.2.1.trans r.2.2.2⟩
    · have := mCo_r u Y (j + 1) (dp - 1) (m - 1) (k - 1) (by omega)
      rw [show j + 1 + (k - 1) = j + k by omega, show m - 1 - 1 - (k - 1) = m - 1 - k by omega] at this
      have y85 : Y.1 85 (m - 1 - k) = T.1 85 (m - 1 - k) := by rw [eY, mP_c (by decide), zi_c (by decide), zi_c (by decide)]
      rw [y85] at this
      exact this
theorem cSt_CK {i0 ws0 : Nat} : ∀ y (S : zS) i v, i0 ≤ i → CK S (cSt y S i v) i0 ws0
  | 0, S, i, v, _ => CK_rfl
  | y + 1, S, i, v, h => CK_tr (CK_tr (CK_zi (by omega)) (CK_cA h)) (cSt_CK y _ (i + 1) (v - 1) (by omega))
theorem cSt_CS {p : Nat} : ∀ y (S : zS) i v, CS b t p i v S → y ≤ v → CS b t p (i + y) (v - y) (cSt y S i v)
  | 0, S, i, v, h, _ => h
  | y + 1, S, i, v, h, hy => by
    have := cSt_CS y _ (i + 1) (v - 1) (CS_cA (x1 := S.1 35 (v - 1)) (x2 := 0) (x3 := S.1 36 (v - 1)) (x4 := S.1 37 (v - 1)) (CS_ws (v := v - 1) h)) (by omega)
    rw [show i + 1 + y = i + (y + 1) by omega, show v - 1 - y = v - (y + 1) by omega] at this
    exact this
end SGC
def gC (w : Nat) (S T : zS) (ni : Nat → Nat → Prop) (bo m p i j : Nat) : Nat → Nat → Nat → Prop
  | 0, i', j' => gX w S T ni p i i' j j'
  | x + 1, i', j' => ∃ i1 j1 p1 o a, gC w S T ni bo m p i j x i1 j1 ∧ gX w S T ni p1 i1 i' j1 j' ∧ 1 ≤ o ∧ o ≤ 18 ∧ S.1 35 (bo + x) = nI (37 + o) ∧ S.1 36 (bo + x) = nI a ∧ S.1 37 (bo + x) = nI p1 ∧ T.1 83 (m + x) = 1 ∧ T.1 84 (m + x) = nI o ∧ T.1 85 (m + x) = nI a
section GCS
variable {w : Nat} {S T S' T' : zS} {ni ni' : Nat → Nat → Prop} {bo m p i j : Nat}
theorem gC_bnd : ∀ x i' j', gC w S T ni bo m p i j x i' j' → i < i' ∧ j < j'
  | 0, i', j', h => gX_bnd h
  | x + 1, i', j', h => by
    obtain ⟨i1, j1, p1, o, a, h1, h2, -⟩ := h
    have a1 := gC_bnd x _ _ h1
    have a2 := gX_bnd h2
    omega
theorem gC_last {x i' j' : Nat} (h : gC w S T ni bo m p i j x i' j') : ¬ T.1 78 (j' - 1) = 8 := by
  cases x with
  | zero => exact gX_last h
  | succ x =>
    obtain ⟨i1, j1, p1, o, a, h1, h2, -⟩ := h
    exact gX_last h2
theorem gC_cong (hni : ∀ v p, ni v p → ni' v p) : ∀ x i' j', gC w S T ni bo m p i j x i' j' → cgS S S' i i' → cgT T T' j j' → (∀ k, k < bo + x → S'.1 35 k = S.1 35 k ∧ S'.1 36 k = S.1 36 k ∧ S'.1 37 k = S.1 37 k) → (∀ k, k < m + x → T'.1 83 k = T.1 83 k ∧ T'.1 84 k = T.1 84 k ∧ T'.1 85 k = T.1 85 k) → gC w S' T' ni' bo m p i j x i' j'
  | 0, i', j', h, cs, ct, _, _ => gX_cong hni h cs ct
  | x + 1, i', j', h, cs, ct, hs, ht => by
    obtain ⟨i1, j1, p1, o, a, h1, h2, o1, o2, f1, f2, f3, f4, f5, f6⟩ := h
    have b1 := gC_bnd x _ _ h1
    have b2 := gX_bnd h2
    have s := hs (bo + x) (by omega)
    have t := ht (m + x) (by omega)
    exact ⟨i1, j1, p1, o, a, gC_cong hni x i1 j1 h1 (fun k q1 q2 => cs k q1 (by omega)) (fun k q1 q2 => ct k q1 (by omega)) (fun k hk => hs k (by omega)) (fun k hk => ht k (by omega)), gX_cong hni h2 (fun k q1 q2 => cs k (by omega) q2) (fun k q1 q2 => ct k (by omega) q2), o1, o2, s.1.trans f1, s.2.1.trans f2, s.2.2.trans f3, t.1.trans f4, t.2.1.trans f5, t.2.2.trans f6⟩
theorem gC_T : ∀ x i' j', gC w S T ni bo m p i j x i' j' → ∀ k, k < x → ∃ o, 1 ≤ o ∧ o ≤ 18 ∧ S.1 35 (bo + k) = nI (37 + o) ∧ T.1 83 (m + k) = 1 ∧ T.1 84 (m + k) = nI o
  | 0, i', j', h, k, hk => absurd hk (Nat.not_lt_zero k)
  | x + 1, i', j', h, k, hk => by
    obtain ⟨i1, j1, p1, o, a, h1, h2, o1, o2, f1, f2, f3, f4, f5, f6⟩ := h
    by_cases e : k = x
    · subst e
      exact ⟨o, o1, o2, f1, f4, f5⟩
    · exact gC_T x _ _ h1 k (by omega)
/-- one operator is settled on both sides -/
theorem gC_1 {x i' j' v : Nat} (hv : v = bo + (x + 1)) {mm : Nat} (hm : mm = m + (x + 1)) (h : gC w S T ni bo m p i j (x + 1) i' j') (hni : ∀ v p, ni v p → ni' v p) : gC w (cA (zi S 34 9 (nI (v - 1))) i' (S.1 35 (v - 1)) 0 (S.1 36 (v - 1)) (S.1 37 (v - 1))) (mP (zi T 73 20 (nI (mm - 1))) j' 13 (T.1 84 (mm - 1)) 0 (T.1 85 (mm - 1))) ni' bo m p i j x (i' + 1) (j' + 1) := by
  obtain ⟨i1, j1, p1, o, a, h1, h2, o1, o2, f1, f2, f3, f4, f5, f6⟩ := h
  rw [show v - 1 = bo + x by omega, show mm - 1 = m + x by omega, f1, f2, f3, f5, f6]
  obtain ⟨S1, eS⟩ : ∃ S1, S1 = cA (zi S 34 9 (nI (bo + x))) i' (nI (37 + o)) 0 (nI a) (nI p1) := ⟨_, rfl⟩
  obtain ⟨T1, eT⟩ : ∃ T1, T1 = mP (zi T 73 20 (nI (m + x))) j' 13 (nI o) 0 (nI a) := ⟨_, rfl⟩
  rw [← eS, ← eT]
  have b2 := gX_bnd h2
  have ck : CK S S1 i' (bo + x) := by rw [eS]; exact CK_tr (CK_zi (by omega)) (CK_cA (Nat.le_refl _))
  have cs : ∀ lo, cgS S S1 lo i' := fun lo k q1 q2 => ck.1 k (Nat.zero_le _) q2
  have mk : MK (fun _ => 0) 0 T T1 j' (m + x) := by rw [eT]; exact MK_tr (MK_zi (by omega)) (MK_mP (Nat.le_refl _))
  have ct : ∀ lo, cgT T T1 lo j' := fun lo k q1 q2 => mk.1 k (Nat.zero_le _) q2
  have rs := cA_r (S := zi S 34 9 (nI (bo + x))) (i0 := i') (x1 := nI (37 + o)) (x2 := 0) (x3 := nI a) (x4 := nI p1)
  have rt := mP_r (T := zi T 73 20 (nI (m + x))) (j0 := j') (x1 := 13) (x2 := nI o) (x3 := 0) (x4 := nI a)
  rw [← eS] at rs
  rw [← eT] at rt
  have g2 : gX w S1 T1 ni' p1 i1 i' j1 j' := gX_cong hni h2 (cs _) (ct _)
  have mkbin : ∀ p0 i0 j0, gX w S T ni p0 i0 i1 j0 j1 → gX w S1 T1 ni' p0 i0 (i' + 1) j0 (j' + 1) := fun p0 i0 j0 g =>
    gX_bin ⟨i1, j1, p1, i', j', o, a, gX_cong hni g (fun k q1 q2 => cs 0 k (Nat.zero_le _) (by omega)) (fun k q1 q2 => ct 0 k (Nat.zero_le _) (by omega)), g2, o1, o2, rfl, rfl, rs.1, rs.2.2.1, rs.2.2.2, rt.1, rt.2.1, rt.2.2.2⟩
  cases x with
  | zero => exact mkbin p i j h1
  | succ x =>
    obtain ⟨i0, j0, p0, o', a', h0, g0, o1', o2', f1', f2', f3', f4', f5', f6'⟩ := h1
    have b0 := gC_bnd _ _ _ h0
    have bb := gX_bnd g0
    have s := ck.2.1 (bo + x) (by omega)
    have t := mk.2.1 (m + x) (by omega)
    exact ⟨i0, j0, p0, o', a', gC_cong hni x i0 j0 h0 (fun k q1 q2 => cs 0 k (Nat.zero_le _) (by omega)) (fun k q1 q2 => ct 0 k (Nat.zero_le _) (by omega)) (fun k hk => ck.2.1 k (by omega)) (fun k hk => ⟨(mk.2.1 k (by omega)).1, (mk.2.1 k (by omega)).2.1, (mk.2.1 k (by omega)).2.2.1⟩), mkbin p0 i0 j0 g0, o1', o2', s.1.trans f1', s.2.1.trans f2', s.2.2.trans f3', t.1.trans f4', t.2.1.trans f5', t.2.2.1.trans f6'⟩
theorem gC_pop : ∀ y x (S T : zS) i' j', y ≤ x → gC w S T ni bo m p i j x i' j' → gC w (cSt y S i' (bo + x)) (mRd y T j' (m + x)) ni bo m p i j (x - y) (i' + y) (j' + y)
  | 0, x, S, T, i', j', _, h => h
  | y + 1, 0, S, T, i', j', hy, h => absurd hy (by omega)
  | y + 1, x + 1, S, T, i', j', hy, h => by
    have := gC_pop y x _ _ (i' + 1) (j' + 1) (by omega) (gC_1 (v := bo + (x + 1)) rfl (mm := m + (x + 1)) rfl h (fun _ _ z => z))
    rw [show x + 1 - (y + 1) = x - y by omega, show i' + (y + 1) = i' + 1 + y by omega, show j' + (y + 1) = j' + 1 + y by omega]
    exact this
end GCS
