/-! what waits is settled, on both sides -/
def pops (os : Nat → Nat) (r : Nat) : Nat → Nat
  | 0 => 0
  | x + 1 => if r ≤ rk (os x) then pops os r x + 1 else 0
theorem pops_le (os : Nat → Nat) (r : Nat) : ∀ x, pops os r x ≤ x
  | 0 => Nat.le_refl _
  | x + 1 => by
    show (if r ≤ rk (os x) then pops os r x + 1 else 0) ≤ x + 1
    have := pops_le os r x
    split <;> omega
theorem pops_0 (os : Nat → Nat) : ∀ x, pops os 0 x = x
  | 0 => rfl
  | x + 1 => by
    show (if _ then _ else _) = _
    rw [if_pos (Nat.zero_le _), pops_0 os x]
theorem pops_top (os : Nat → Nat) (r : Nat) : ∀ x, pops os r x < x → rk (os (x - pops os r x - 1)) < r
  | 0, h => absurd h (Nat.not_lt_zero _)
  | x + 1, h => by
    by_cases q : r ≤ rk (os x)
    · have e : pops os r (x + 1) = pops os r x + 1 := by
        show (if _ then _ else _) = _
        rw [if_pos q]
      rw [e] at h ⊢
      rw [show x + 1 - (pops os r x + 1) - 1 = x - pops os r x - 1 by omega]
      exact pops_top os r x (by omega)
    · have e : pops os r (x + 1) = 0 := by
        show (if _ then _ else _) = _
        rw [if_neg q]
      rw [e]
      exact Nat.lt_of_not_le q
theorem pops_c {os os' : Nat → Nat} {r : Nat} : ∀ x, (∀ k, k < x → os k = os' k) → pops os r x = pops os' r x
  | 0, _ => rfl
  | x + 1, h => by
    show (if _ then _ else _) = (if _ then _ else _)
    rw [h x (by omega), pops_c x (fun k hk => h k (by omega))]
def cSt : Nat → zS → Nat → Nat → zS
  | 0, S, _, _ => S
  | y + 1, S, i, v => cSt y (cA (zi S 34 9 (nI (v - 1))) i (S.1 35 (v - 1)) 0 (S.1 36 (v - 1)) (S.1 37 (v - 1))) (i + 1) (v - 1)
def mRd : Nat → zS → Nat → Nat → zS
  | 0, T, _, _ => T
  | y + 1, T, j, m => mRd y (mP (zi T 73 20 (nI (m - 1))) j 13 (T.1 84 (m - 1)) 0 (T.1 85 (m - 1))) (j + 1) (m - 1)
def mSg : Nat → zS → Nat → Nat → Nat → zS
  | 0, T, _, _, _ => T
  | u + 1, T, j, dp, m => mSg u (mP (zi (zi T 73 20 (nI (m - 1))) 73 19 (nI (dp - 1))) j 12 (T.1 84 (m - 1)) 0 (T.1 85 (m - 1))) (j + 1) (dp - 1) (m - 1)
def mCo : Nat → zS → Nat → Nat → Nat → zS
  | 0, T, _, _, _ => T
  | u + 1, T, j, dp, m => mCo u (mP (zi (zi T 73 20 (nI (m - 1))) 73 19 (nI (dp - 1))) j 14 0 0 (T.1 85 (m - 1))) (j + 1) (dp - 1) (m - 1)
theorem mP_c {T : zS} {j0 c k : Nat} {x1 x2 x3 x4 : Int32} (h : c ≠ 73 ∧ c ≠ 78 ∧ c ≠ 79 ∧ c ≠ 80 ∧ c ≠ 81) : (mP T j0 x1 x2 x3 x4).1 c k = T.1 c k := by
  unfold mP
  rw [zi_c (by omega), zi_c (by omega), zi_c (by omega), zi_c (by omega), zi_c (by omega)]
theorem mP_k {T : zS} {j0 k : Nat} {x1 x2 x3 x4 : Int32} (h : k ≠ 13) : (mP T j0 x1 x2 x3 x4).1 73 k = T.1 73 k := by
  unfold mP
  rw [zi_k h, zi_c (by omega), zi_c (by omega), zi_c (by omega), zi_c (by omega)]
theorem mP_13 {T : zS} {j0 : Nat} {x1 x2 x3 x4 : Int32} : (mP T j0 x1 x2 x3 x4).1 73 13 = nI (j0 + 1) := zi_v
theorem cA_c {S : zS} {i0 c k : Nat} {x1 x2 x3 x4 : Int32} (h : c ≠ 3 ∧ c ≠ 4 ∧ c ≠ 5 ∧ c ≠ 6 ∧ c ≠ 7) : (cA S i0 x1 x2 x3 x4).1 c k = S.1 c k := by
  unfold cA
  rw [zi_c (by omega), zi_c (by omega), zi_c (by omega), zi_c (by omega), zi_c (by omega)]
theorem cA_k {S : zS} {i0 k : Nat} {x1 x2 x3 x4 : Int32} (h : k ≠ 4) : (cA S i0 x1 x2 x3 x4).1 3 k = S.1 3 k := by
  unfold cA
  rw [zi_k h, zi_c (by omega), zi_c (by omega), zi_c (by omega), zi_c (by omega)]
theorem cA_4 {S : zS} {i0 : Nat} {x1 x2 x3 x4 : Int32} : (cA S i0 x1 x2 x3 x4).1 3 4 = nI (i0 + 1) := zi_v
theorem cA_r {S : zS} {i0 : Nat} {x1 x2 x3 x4 : Int32} : (cA S i0 x1 x2 x3 x4).1 4 i0 = x1 ∧ (cA S i0 x1 x2 x3 x4).1 5 i0 = x2 ∧ (cA S i0 x1 x2 x3 x4).1 6 i0 = x3 ∧ (cA S i0 x1 x2 x3 x4).1 7 i0 = x4 := by
  unfold cA
  refine ⟨?_, ?_, ?_, ?_⟩
  · rw [zi_c (by decide), zi_c (by decide), zi_c (by decide), zi_c (by decide)]; exact zi_v
  · rw [zi_c (by decide), zi_c (by decide), zi_c (by decide)]; exact zi_v
  · rw [zi_c (by decide), zi_c (by decide)]; exact zi_v
  · rw [zi_c (by decide)]; exact zi_v
theorem cA_o {S : zS} {i0 k : Nat} {x1 x2 x3 x4 : Int32} (h : k ≠ i0) : (cA S i0 x1 x2 x3 x4).1 4 k = S.1 4 k ∧ (cA S i0 x1 x2 x3 x4).1 5 k = S.1 5 k ∧ (cA S i0 x1 x2 x3 x4).1 6 k = S.1 6 k ∧ (cA S i0 x1 x2 x3 x4).1 7 k = S.1 7 k := by
  unfold cA
  refine ⟨?_, ?_, ?_, ?_⟩
  · rw [zi_c (by decide), zi_c (by decide), zi_c (by decide), zi_c (by decide), zi_k h]
  · rw [zi_c (by decide), zi_c (by decide), zi_c (by decide), zi_k h, zi_c (by decide)]
  · rw [zi_c (by decide), zi_c (by decide), zi_k h, zi_c (by decide), zi_c (by decide)]
  · rw [zi_c (by decide), zi_k h, zi_c (by decide), zi_c (by decide), zi_c (by decide)]
section RD
variable {l : Launch} {Gr : zG} {n w : Nat} {d : Nat} {b : Nat → Int32} {t q : Nat}
theorem wx_sg (hg : ip_gk (lg_tbl, vwCl, Gr)) {Q : Option Value → zS → Prop} : ∀ (u : Nat) (T : zS) (j dp m : Nat), u ≤ m → u ≤ dp → m ≤ 4100 → dp ≤ 100 → j + u ≤ 12000 → T.1 73 13 = nI j → T.1 73 19 = nI dp → T.1 73 20 = nI m → (∀ k, k < u → T.1 83 (m - 1 - k) = 2) → (u = m ∨ ¬ T.1 83 (m - 1 - u) = 2) → Q none (mSg u T j dp m) → zW l Gr (zc n w) 168 M_Mo_signsOver (d + 1) 0 [some (.ref 105), some (.int 0), none] [] T Q
  | 0, T, j, dp, m, h1, h2, h3, h4, h5, e1, e2, e3, hu, hb, k => by
    refine b_Mo_signsOver_0 (fun _ => b_Mo_signsOver_72 k) (fun z => ?_)
    rw [e3] at z
    have hm : 0 < m := Nat.pos_of_ne_zero (fun y => z (by rw [y]; exact Int32.le_refl _))
    have e : T.1 73 20 - 1 = nI (m - 1) := by rw [e3]; exact pk_sub (a := m) (b := 1) (by omega)
    refine b_Mo_signsOver_8 (by rw [e]; exact vp_in_nI (by omega) (by omega)) (fun _ => b_Mo_signsOver_72 k) (fun y => ?_)
    rw [e, nI_clamp (by omega)] at y
    rcases hb with hb | hb
    · omega
    · exact absurd y hb
  | u + 1, T, j, dp, m, h1, h2, h3, h4, h5, e1, e2, e3, hu, hb, k => by
    have e : T.1 73 20 - 1 = nI (m - 1) := by rw [e3]; exact pk_sub (a := m) (b := 1) (by omega)
    have e' : T.1 73 19 - 1 = nI (dp - 1) := by rw [e2]; exact pk_sub (a := dp) (b := 1) (by omega)
    refine b_Mo_signsOver_0 (fun z => ?_) (fun _ => b_Mo_signsOver_8 (by rw [e]; exact vp_in_nI (by omega) (by omega)) (fun y => ?_) (fun _ => ?_))
    · rw [e3] at z
      exact absurd z (nI_ge (a := 0) (b := m) (by omega) (by omega))
    · rw [e, nI_clamp (by omega)] at y
      exact absurd (hu 0 (by omega)) y
    · refine b_Mo_signsOver_23 hg (by rw [e]; exact vp_in_nI (by omega) (by omega)) (wm_put (j := j) (by rw [zi_k (by decide), zi_k (by decide)]; exact e1) (by omega)) (fun v T1 hv => ?_)
      rw [hv.2]
      refine b_Mo_signsOver_68 ?_
      rw [e, e', nI_clamp (by omega)]
      refine wx_sg hg u _ (j + 1) (dp - 1) (m - 1) (by omega) (by omega) (by omega) (by omega) (by omega) mP_13 (by rw [mP_k (by decide)]; exact zi_v) (by rw [mP_k (by decide), zi_k (by decide)]; exact zi_v) (fun k' hk => ?_) ?_ k
      · rw [mP_c (by decide), zi_c (by decide), zi_c (by decide), show m - 1 - 1 - k' = m - 1 - (k' + 1) by omega]
        exact hu _ (by omega)
      · rw [mP_c (by decide), zi_c (by decide), zi_c (by decide), show m - 1 - 1 - u = m - 1 - (u + 1) by omega]
        exact hb.imp (fun y => by omega) id
theorem wm_signsOver (hg : ip_gk (lg_tbl, vwCl, Gr)) {T : zS} {u j dp m : Nat} (h1 : u ≤ m) (h2 : u ≤ dp) (h3 : m ≤ 4100) (h4 : dp ≤ 100) (h5 : j + u ≤ 12000) (e1 : T.1 73 13 = nI j) (e2 : T.1 73 19 = nI dp) (e3 : T.1 73 20 = nI m) (hu : ∀ k, k < u → T.1 83 (m - 1 - k) = 2) (hb : u = m ∨ ¬ T.1 83 (m - 1 - u) = 2) : zMv l Gr (zc n w) 168 M_Mo_signsOver (d + 1) [.ref 105, .int 0] T (fun T' => T' = mSg u T j dp m) :=
  e_Mo_signsOver (wx_sg hg u T j dp m h1 h2 h3 h4 h5 e1 e2 e3 hu hb ⟨rfl, rfl⟩)
theorem wx_rd (hg : ip_gk (lg_tbl, vwCl, Gr)) {os : Nat → Nat} {r wm : Nat} (hr : r ≤ 20) {Q : Option Value → zS → Prop} : ∀ (x : Nat) (T : zS) (j : Nat), wm + x ≤ 4100 → j + x ≤ 12000 → T.1 73 13 = nI j → T.1 73 20 = nI (wm + x) → (∀ k, k < x → T.1 83 (wm + k) = 1 ∧ T.1 84 (wm + k) = nI (os k) ∧ ¬ os k = 0 ∧ os k ≤ 18) → (wm = 0 ∨ ¬ T.1 83 (wm - 1) = 1) → Q none (mRd (pops os r x) T j (wm + x)) → zW l Gr (zc n w) 168 M_Mo_reduce (d + 1) 0 [some (.ref 105), some (.int 0), some (.int (nI r)), none] [] T Q
  | 0, T, j, h1, h2, e1, e3, hu, hb, k => by
    refine b_Mo_reduce_0 (fun _ => b_Mo_reduce_80 k) (fun z => ?_)
    rw [e3] at z
    have hm : 0 < wm := Nat.pos_of_ne_zero (fun y => z (by rw [y]; exact Int32.le_refl _))
    have e : T.1 73 20 - 1 = nI (wm - 1) := by rw [e3]; exact pk_sub (a := wm) (b := 1) (by omega)
    refine b_Mo_reduce_8 (by rw [e]; exact vp_in_nI (by omega) (by omega)) (fun _ => b_Mo_reduce_80 k) (fun y => ?_)
    rw [e, nI_clamp (by omega)] at y
    rcases hb with hb | hb
    · omega
    · exact absurd y hb
  | x + 1, T, j, h1, h2, e1, e3, hu, hb, k => by
    have e : T.1 73 20 - 1 = nI (wm + x) := by rw [e3]; exact pk_sub (a := wm + (x + 1)) (b := 1) (by omega)
    obtain ⟨u1, u2, u3, u4⟩ := hu x (by omega)
    refine b_Mo_reduce_0 (fun z => ?_) (fun _ => b_Mo_reduce_8 (by rw [e]; exact vp_in_nI (by omega) (by omega)) (fun y => ?_) (fun _ => ?_))
    · rw [e3] at z
      exact absurd z (nI_ge (a := 0) (b := wm + (x + 1)) (by omega) (by omega))
    · rw [e, nI_clamp (by omega)] at y
      exact absurd u1 y
    · have ea : T.1 84 ((T.1 73 20 - 1).toNatClampNeg) = nI (os x) := by rw [e, nI_clamp (by omega)]; exact u2
      have ep : T.1 85 ((T.1 73 20 - 1).toNatClampNeg) = T.1 85 (wm + x) := by rw [e, nI_clamp (by omega)]
      refine b_Mo_reduce_23 hg (by rw [e]; exact vp_in_nI (by omega) (by omega)) (by rw [ea]; exact wm_rank u4 u3) (fun v T1 hv => ?_)
      rw [hv.1, hv.2]
      have hrk : rk (os x) ≤ 10 := (show ∀ o, o ≤ 18 → rk o ≤ 10 by decide) _ u4
      refine b_Mo_reduce_37 (fun z => b_Mo_reduce_80 ?_) (fun z => ?_)
      · have : rk (os x) < r := (nI_ltI (by omega) (by omega)).mp z
        have e0 : pops os r (x + 1) = 0 := by
          show (if _ then _ else _) = _
          rw [if_neg (by omega)]
        rw [e0] at k
        exact k
      · have hle : r ≤ rk (os x) := Nat.le_of_not_lt (fun y => z (nI_lt y (by omega)))
        have e0 : pops os r (x + 1) = pops os r x + 1 := by
          show (if _ then _ else _) = _
          rw [if_pos hle]
        rw [e0] at k
        refine b_Mo_reduce_41 hg (by rw [e]; exact vp_in_nI (by omega) (by omega)) (wm_put (j := j) (by rw [zi_k (by decide)]; exact e1) (by omega)) (fun v T2 hv => ?_)
        rw [hv.2]
        refine b_Mo_reduce_76 ?_
        rw [ea, ep, e]
        refine wx_rd (os := os) (wm := wm) hg hr x _ (j + 1) (by omega) (by omega) mP_13 (by rw [mP_k (by decide)]; exact zi_v) (fun k' hk => ?_) ?_ ?_
        · rw [mP_c (by decide), mP_c (by decide), zi_c (by decide), zi_c (by decide)]
          exact hu k' (by omega)
        · rw [mP_c (by decide), zi_c (by decide)]
          exact hb
        · have : mRd (pops os r x + 1) T j (wm + (x + 1)) = mRd (pops os r x) (mP (zi T 73 20 (nI (wm + x))) j 13 (T.1 84 (wm + x)) 0 (T.1 85 (wm + x))) (j + 1) (wm + x) := rfl
          rw [this, u2] at k
          exact k
theorem wm_reduce (hg : ip_gk (lg_tbl, vwCl, Gr)) {os : Nat → Nat} {r wm x j : Nat} {T : zS} (hr : r ≤ 20) (h1 : wm + x ≤ 4100) (h2 : j + x ≤ 12000) (e1 : T.1 73 13 = nI j) (e3 : T.1 73 20 = nI (wm + x)) (hu : ∀ k, k < x → T.1 83 (wm + k) = 1 ∧ T.1 84 (wm + k) = nI (os k) ∧ ¬ os k = 0 ∧ os k ≤ 18) (hb : wm = 0 ∨ ¬ T.1 83 (wm - 1) = 1) : zMv l Gr (zc n w) 168 M_Mo_reduce (d + 1) [.ref 105, .int 0, .int (nI r)] T (fun T' => T' = mRd (pops os r x) T j (wm + x)) :=
  e_Mo_reduce (wx_rd hg hr x T j h1 h2 e1 e3 hu hb ⟨rfl, rfl⟩)
theorem mRd_c {c k : Nat} (h : c ≠ 73 ∧ c ≠ 78 ∧ c ≠ 79 ∧ c ≠ 80 ∧ c ≠ 81) : ∀ y (T : zS) j m, (mRd y T j m).1 c k = T.1 c k
  | 0, T, j, m => rfl
  | y + 1, T, j, m => by
    show (mRd y _ _ _).1 c k = _
    rw [mRd_c h y, mP_c h, zi_c h.1]
theorem mRd_k {k : Nat} (h : k ≠ 13 ∧ k ≠ 20) : ∀ y (T : zS) j m, (mRd y T j m).1 73 k = T.1 73 k
  | 0, T, j, m => rfl
  | y + 1, T, j, m => by
    show (mRd y _ _ _).1 73 k = _
    rw [mRd_k h y, mP_k h.1, zi_k h.2]
theorem mRd_j : ∀ y (T : zS) j m, T.1 73 13 = nI j → T.1 73 20 = nI m → y ≤ m → (mRd y T j m).1 73 13 = nI (j + y) ∧ (mRd y T j m).1 73 20 = nI (m - y)
  | 0, T, j, m, e1, e2, _ => ⟨e1, e2⟩
  | y + 1, T, j, m, e1, e2, h => by
    have := mRd_j y (mP (zi T 73 20 (nI (m - 1))) j 13 (T.1 84 (m - 1)) 0 (T.1 85 (m - 1))) (j + 1) (m - 1) mP_13 (by rw [mP_k (by decide)]; exact zi_v) (by omega)
    rw [show j + 1 + y = j + (y + 1) by omega, show m - 1 - y = m - (y + 1) by omega] at this
    exact this
theorem mRd_MK {j0 m0 : Nat} : ∀ y (T : zS) j m, j0 ≤ j → MK b t T (mRd y T j m) j0 m0
  | 0, T, j, m, _ => MK_rfl
  | y + 1, T, j, m, h => MK_tr (MK_tr (MK_zi (by omega)) (MK_mP h)) (mRd_MK y _ (j + 1) (m - 1) (by omega))
theorem mRd_MC {dp N : Nat} : ∀ y (T : zS) j m, MC b t q j dp m N T → y ≤ m → MC b t q (j + y) dp (m - y) N (mRd y T j m)
  | 0, T, j, m, h, _ => h
  | y + 1, T, j, m, h, hy => by
    have := mRd_MC y _ (j + 1) (m - 1) (MC_mP (x1 := 13) (x2 := T.1 84 (m - 1)) (x3 := 0) (x4 := T.1 85 (m - 1)) (MC_m (m' := m - 1) h)) (by omega)
    rw [show j + 1 + y = j + (y + 1) by omega, show m - 1 - y = m - (y + 1) by omega] at this
    exact this
theorem wx_co (hg : ip_gk (lg_tbl, vwCl, Gr)) {Q : Option Value → zS → Prop} : ∀ (u : Nat) (T : zS) (j dp m : Nat), u ≤ m → u ≤ dp → m ≤ 4100 → dp ≤ 100 → j + u ≤ 12000 → T.1 73 13 = nI j → T.1 73 19 = nI dp → T.1 73 20 = nI m → (∀ k, k < u → T.1 83 (m - 1 - k) = 4) → (u = m ∨ (¬ T.1 83 (m - 1 - u) = 4 ∧ ¬ T.1 83 (m - 1 - u) = 1)) → Q none (mCo u T j dp m) → zW l Gr (zc n w) 168 M_Mo_reduceAll (d + 2) 6 [some (.ref 105), some (.int 0), none] [] T Q
  | 0, T, j, dp, m, h1, h2, h3, h4, h5, e1, e2, e3, hu, hb, k => by
    refine b_Mo_reduceAll_6 (fun _ => b_Mo_reduceAll_76 k) (fun z => ?_)
    rw [e3] at z
    have hm : 0 < m := Nat.pos_of_ne_zero (fun y => z (by rw [y]; exact Int32.le_refl _))
    have e : T.1 73 20 - 1 = nI (m - 1) := by rw [e3]; exact pk_sub (a := m) (b := 1) (by omega)
    refine b_Mo_reduceAll_14 (by rw [e]; exact vp_in_nI (by omega) (by omega)) (fun _ => b_Mo_reduceAll_76 k) (fun y => ?_)
    rw [e, nI_clamp (by omega)] at y
    rcases hb with hb | hb
    · omega
    · exact absurd y hb.1
  | u + 1, T, j, dp, m, h1, h2, h3, h4, h5, e1, e2, e3, hu, hb, k => by
    have e : T.1 73 20 - 1 = nI (m - 1) := by rw [e3]; exact pk_sub (a := m) (b := 1) (by omega)
    have e' : T.1 73 19 - 1 = nI (dp - 1) := by rw [e2]; exact pk_sub (a := dp) (b := 1) (by omega)
    refine b_Mo_reduceAll_6 (fun z => ?_) (fun _ => b_Mo_reduceAll_14 (by rw [e]; exact vp_in_nI (by omega) (by omega)) (fun y => ?_) (fun _ => ?_))
    · rw [e3] at z
      exact absurd z (nI_ge (a := 0) (b := m) (by omega) (by omega))
    · rw [e, nI_clamp (by omega)] at y
      exact absurd (hu 0 (by omega)) y
    · refine b_Mo_reduceAll_29 hg (by rw [e]; exact vp_in_nI (by omega) (by omega)) (wm_put (j := j) (by rw [zi_k (by decide), zi_k (by decide)]; exact e1) (by omega)) (fun v T1 hv => ?_)
      rw [hv.2]
      have e85 : T.1 85 ((T.1 73 20 - 1).toNatClampNeg) = T.1 85 (m - 1) := by rw [e, nI_clamp (by omega)]
      rw [e85, e, e']
      obtain ⟨T2, eT⟩ : ∃ T2, T2 = mP (zi (zi T 73 20 (nI (m - 1))) 73 19 (nI (dp - 1))) j 14 0 0 (T.1 85 (m - 1)) := ⟨_, rfl⟩
      rw [← eT]
      have w83 : ∀ k', T2.1 83 k' = T.1 83 k' := fun k' => by rw [eT, mP_c (by decide), zi_c (by decide), zi_c (by decide)]
      have f13 : T2.1 73 13 = nI (j + 1) := by rw [eT]; exact mP_13
      have f20 : T2.1 73 20 = nI (m - 1) := by rw [eT, mP_k (by decide), zi_k (by decide)]; exact zi_v
      have f19 : T2.1 73 19 = nI (dp - 1) := by rw [eT, mP_k (by decide)]; exact zi_v
      refine b_Mo_reduceAll_66 hg (wm_reduce (os := fun _ => 1) (r := 0) (wm := m - 1) (x := 0) (j := j + 1) hg (by omega) (by omega) (by omega) f13 f20 (fun k' hk => absurd hk (Nat.not_lt_zero k')) ?_) (fun T3 e3' => ?_)
      · rw [w83]
        by_cases y : m - 1 = 0
        · exact Or.inl y
        · right
          by_cases y2 : u = 0
          · subst y2
            rcases hb with hb | hb
            · omega
            · rw [show m - 1 - 1 = m - 1 - (0 + 1) by omega]
              exact hb.2
          · rw [show m - 1 - 1 = m - 1 - 1 by omega, hu 1 (by omega)]
            decide
      · rw [e3']
        refine b_Mo_reduceAll_73 ?_
        refine wx_co hg u T2 (j + 1) (dp - 1) (m - 1) (by omega) (by omega) (by omega) (by omega) (by omega) f13 f19 f20 (fun k' hk => ?_) ?_ ?_
        · rw [w83, show m - 1 - 1 - k' = m - 1 - (k' + 1) by omega]
          exact hu _ (by omega)
        · rw [w83, show m - 1 - 1 - u = m - 1 - (u + 1) by omega]
          exact hb.imp (fun y => by omega) id
        · rw [eT]
          exact k
theorem wm_reduceAll (hg : ip_gk (lg_tbl, vwCl, Gr)) {os : Nat → Nat} {T : zS} {x c j dp m : Nat} (h1 : c ≤ m) (h2 : c ≤ dp) (h3 : m + x ≤ 4100) (h4 : dp ≤ 100) (h5 : j + x + c ≤ 12000) (e1 : T.1 73 13 = nI j) (e2 : T.1 73 19 = nI dp) (e3 : T.1 73 20 = nI (m + x)) (hx : ∀ k, k < x → T.1 83 (m + k) = 1 ∧ T.1 84 (m + k) = nI (os k) ∧ ¬ os k = 0 ∧ os k ≤ 18) (hu : ∀ k, k < c → T.1 83 (m - 1 - k) = 4) (hb : c = m ∨ (¬ T.1 83 (m - 1 - c) = 4 ∧ ¬ T.1 83 (m - 1 - c) = 1)) : zMv l Gr (zc n w) 168 M_Mo_reduceAll (d + 2) [.ref 105, .int 0] T (fun T' => T' = mCo c (mRd x T j (m + x)) (j + x) dp m) := by
  refine e_Mo_reduceAll (b_Mo_reduceAll_0 hg (wm_reduce (os := os) (r := 0) (wm := m) (x := x) (j := j) hg (by omega) h3 (by omega) e1 e3 hx ?_) (fun T1 eT => ?_))
  · by_cases y : m = 0
    · exact Or.inl y
    · right
      by_cases y2 : c = 0
      · subst y2
        rcases hb with hb | hb
        · omega
        · rw [show m - 1 = m - 1 - 0 by omega]
          exact hb.2
      · rw [show m - 1 = m - 1 - 0 by omega, hu 0 (by omega)]
        decide
  · rw [pops_0] at eT
    rw [eT]
    have jj := mRd_j x T j (m + x) e1 e3 (by omega)
    rw [show m + x - x = m by omega] at jj
    refine wx_co hg c _ (j + x) dp m h1 h2 (by omega) h4 (by omega) jj.1 (by rw [mRd_k (by decide)]; exact e2) jj.2 (fun k hk => ?_) ?_ ⟨rfl, rfl⟩
    · rw [mRd_c (by decide)]; exact hu k hk
    · rw [mRd_c (by decide)]; exact hb
theorem wx_st (hg : ip_gk (lg_tbl, vwCl, Gr)) (ho : ip_old (lg_tbl, vwCl, Gr)) {os : Nat → Nat} {r bo : Nat} (hr : r ≤ 20) {Q : Option Value → zS → Prop} : ∀ (x : Nat) (S : zS) (i : Nat), bo + x ≤ 310 → i + x ≤ 4000 → S.1 3 4 = nI i → S.1 3 5 = 0 → S.1 34 9 = nI (bo + x) → (∀ k, k < x → S.1 35 (bo + k) = nI (37 + os k) ∧ ¬ os k = 0 ∧ os k ≤ 18) → Q none (cSt (pops os r x) S i (bo + x)) → zW l Gr (zc n w) 168 M_Reader_settle (d + 1) 0 [some (.ref 66), some (.int (nI bo)), some (.int (nI r))] [] S Q
  | 0, S, i, h1, h2, e1, e2, e3, hu, k => by
    refine b_Reader_settle_0 (fun _ => b_Reader_settle_75 k) (fun z => ?_)
    rw [e3] at z
    exact absurd (nI_le (by omega) (by omega)) z
  | x + 1, S, i, h1, h2, e1, e2, e3, hu, k => by
    have e : S.1 34 9 - 1 = nI (bo + x) := by rw [e3]; exact pk_sub (a := bo + (x + 1)) (b := 1) (by omega)
    obtain ⟨u2, u3, u4⟩ := hu x (by omega)
    have ea : S.1 35 ((S.1 34 9 - 1).toNatClampNeg) = nI (37 + os x) := by rw [e, nI_clamp (by omega)]; exact u2
    have e6 : S.1 36 ((S.1 34 9 - 1).toNatClampNeg) = S.1 36 (bo + x) := by rw [e, nI_clamp (by omega)]
    have e7 : S.1 37 ((S.1 34 9 - 1).toNatClampNeg) = S.1 37 (bo + x) := by rw [e, nI_clamp (by omega)]
    have hrank := w_rank (l := l) (Gr := Gr) (n := n) (w := w) (d := d) (S := S) ho (o := os x) u4
    rw [if_neg u3] at hrank
    refine b_Reader_settle_0 (fun z => ?_) (fun _ => b_Reader_settle_8 hg (by rw [e]; exact vp_in_nI (by omega) (by omega)) (by rw [ea]; exact hrank) (fun v S1 hv => ?_))
    · rw [e3] at z
      exact absurd z (nI_ge (by omega) (by omega))
    · rw [hv.1, hv.2]
      have hrk : rk (os x) ≤ 10 := (show ∀ o, o ≤ 18 → rk o ≤ 10 by decide) _ u4
      refine b_Reader_settle_22 (fun z => b_Reader_settle_75 ?_) (fun z => ?_)
      · have : rk (os x) < r := (nI_ltI (by omega) (by omega)).mp z
        have e0 : pops os r (x + 1) = 0 := by
          show (if _ then _ else _) = _
          rw [if_neg (by omega)]
        rw [e0] at k
        exact k
      · have hle : r ≤ rk (os x) := Nat.le_of_not_lt (fun y => z (nI_lt y (by omega)))
        have e0 : pops os r (x + 1) = pops os r x + 1 := by
          show (if _ then _ else _) = _
          rw [if_pos hle]
        rw [e0] at k
        refine b_Reader_settle_26 hg (by rw [e]; exact vp_in_nI (by omega) (by omega)) (w_addWith (i := i) (by rw [zi_c (by decide)]; exact e2) (by rw [zi_c (by decide)]; exact e1) (by omega)) (fun v S2 hv => ?_)
        rw [hv.2]
        refine b_Reader_settle_71 ?_
        rw [ea, e6, e7, e]
        refine wx_st (os := os) (bo := bo) hg ho hr x _ (i + 1) (by omega) (by omega) cA_4 (by rw [cA_k (by decide), zi_c (by decide)]; exact e2) (by rw [cA_c (by decide)]; exact zi_v) (fun k' hk => ?_) ?_
        · rw [cA_c (by decide), zi_c (by decide)]
          exact hu k' (by omega)
        · have : cSt (pops os r x + 1) S i (bo + (x + 1)) = cSt (pops os r x) (cA (zi S 34 9 (nI (bo + x))) i (S.1 35 (bo + x)) 0 (S.1 36 (bo + x)) (S.1 37 (bo + x))) (i + 1) (bo + x) := rfl
          rw [this, u2] at k
          exact k
theorem w_settle (hg : ip_gk (lg_tbl, vwCl, Gr)) (ho : ip_old (lg_tbl, vwCl, Gr)) {os : Nat → Nat} {r bo x i : Nat} {S : zS} (hr : r ≤ 20) (h1 : bo + x ≤ 310) (h2 : i + x ≤ 4000) (e1 : S.1 3 4 = nI i) (e2 : S.1 3 5 = 0) (e3 : S.1 34 9 = nI (bo + x)) (hu : ∀ k, k < x → S.1 35 (bo + k) = nI (37 + os k) ∧ ¬ os k = 0 ∧ os k ≤ 18) : zMv l Gr (zc n w) 168 M_Reader_settle (d + 1) [.ref 66, .int (nI bo), .int (nI r)] S (fun S' => S' = cSt (pops os r x) S i (bo + x)) :=
  e_Reader_settle (wx_st hg ho hr x S i h1 h2 e1 e2 e3 hu ⟨rfl, rfl⟩)
end RD
