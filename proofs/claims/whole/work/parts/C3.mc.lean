/-! the reference's circuit: each step as a function of the store -/
def mLv (T : zS) (x : Int32) : Int32 := if x < 0 then 0 else if (0 : Int32) ≤ (x >>> (1 &&& 31)) - T.1 73 65 then T.1 112 ((x >>> (1 &&& 31)) - T.1 73 65).toNatClampNeg else 0
def mPla (T : zS) : Int32 := if T.1 73 94 = 0 then 0 else T.1 131 (T.1 73 94 - 1).toNatClampNeg
abbrev mNGf (T : zS) (h : Int32) : Prop := T.1 73 66 = 40000 ∨ ¬ h ≤ 2000
def mNGs (T : zS) (a x y h : Int32) : zS := zi (zi (zi (zi (zi (zi (zi T 111 (T.1 73 66).toNatClampNeg a) 112 (T.1 73 66).toNatClampNeg h) 113 (T.1 73 66).toNatClampNeg x) 114 (T.1 73 66).toNatClampNeg y) 73 66 (T.1 73 66 + 1)) 73 67 (T.1 73 67 + a)) 73 68 (if h ≤ T.1 73 68 then T.1 73 68 else h)
def mNG (T : zS) (a x y h : Int32) : Int32 × zS := if mNGf T h then (-2, mT T 8 (mPla T)) else (2 * ((T.1 73 65 + (T.1 73 66 + 1)) - 1), mNGs T a x y h)
def mMx (x y : Int32) : Int32 := if x ≤ y then y else x
def mXor (T : zS) (x y : Int32) : Int32 × zS := if ¬ 0 ≤ x then (y ^^^ (x &&& 1), T) else if ¬ 0 ≤ y then (x ^^^ (y &&& 1), T) else if (x >>> (1 &&& 31)) = (y >>> (1 &&& 31)) then ((-2) + ((x ^^^ y) &&& 1), T) else ((mNG T 0 (x &&& (-2)) (y &&& (-2)) (mMx (mLv T x) (mLv T y))).1 ^^^ ((x ^^^ y) &&& 1), (mNG T 0 (x &&& (-2)) (y &&& (-2)) (mMx (mLv T x) (mLv T y))).2)
def mAnd (T : zS) (x y : Int32) : Int32 × zS := if ¬ 0 ≤ x then (if x = -1 then y else -2, T) else if ¬ 0 ≤ y then (if y = -1 then x else -2, T) else if (x >>> (1 &&& 31)) = (y >>> (1 &&& 31)) then (if x = y then x else -2, T) else mNG T 1 x y (1 + mMx (mLv T x) (mLv T y))
def mMux (T : zS) (c x y : Int32) : Int32 × zS := mXor (mAnd (mXor T x y).2 c (mXor T x y).1).2 y (mAnd (mXor T x y).2 c (mXor T x y).1).1
/-- the reference's circuit has room for what it says -/
def GM (T : zS) : Prop := (∃ g, g ≤ 40000 ∧ T.1 73 66 = nI g) ∧ ∃ q, q ≤ 80 ∧ T.1 73 94 = nI q
/-- a literal that there is -/
def VL (T : zS) (x : Int32) : Prop := ¬ 0 ≤ x ∨ (x >>> (1 &&& 31)) - T.1 73 65 < T.1 73 66
section MCI
variable {l : Launch} {Gr : zG} {n w : Nat} {d : Nat} {T T' : zS} {x y a h c : Int32} {g : Nat}
theorem wm_lev (hG : GM T) (hx : VL T x) : zMi l Gr (zc n w) 168 M_Mo_levelOf d [.ref 105, .int x] T (fun v T' => v = mLv T x ∧ T' = T) := by
  obtain ⟨⟨g, hg, h66⟩, -⟩ := hG
  refine e_Mo_levelOf (b_Mo_levelOf_0 (fun z => b_Mo_levelOf_17 (b_Mo_levelOf_27 ⟨_, rfl, ?_, rfl⟩)) (fun z => b_Mo_levelOf_13 (fun z2 => b_Mo_levelOf_21 ?_ (b_Mo_levelOf_27 ⟨_, rfl, ?_, rfl⟩)) (fun z2 => b_Mo_levelOf_17 (b_Mo_levelOf_27 ⟨_, rfl, ?_, rfl⟩))))
  · unfold mLv; rw [if_pos z]
  · rcases hx with q | q
    · exact absurd (Int32.not_lt.mp z) q
    · rw [h66] at q
      obtain ⟨k, hk, e⟩ := nI_inn (Int32.not_lt.mpr z2) q (by omega)
      rw [e]
      exact vp_in_nI (by omega) (by omega)
  · unfold mLv; rw [if_neg z, if_pos z2]
  · unfold mLv; rw [if_neg z, if_neg z2]
theorem wm_pla (hG : GM T) : zMi l Gr (zc n w) 168 M_Mo_statementPlace d [.ref 105] T (fun v T' => v = mPla T ∧ T' = T) := by
  obtain ⟨-, q, hq, h94⟩ := hG
  refine e_Mo_statementPlace (b_Mo_statementPlace_0 (fun z => b_Mo_statementPlace_11 ?_ (b_Mo_statementPlace_22 ⟨_, rfl, ?_, rfl⟩)) (fun z => b_Mo_statementPlace_7 (b_Mo_statementPlace_22 ⟨_, rfl, ?_, rfl⟩)))
  · rw [h94] at z ⊢
    cases q with
    | zero => exact absurd rfl z
    | succ q =>
      rw [nI_pred]
      exact vp_in_nI (by omega) (by omega)
  · unfold mPla; rw [if_neg z]
  · unfold mPla; rw [if_pos z]
theorem wm_ng (hg : ip_gk (lg_tbl, vwCl, Gr)) (hG : GM T) : zMi l Gr (zc n w) 168 M_Mo_newGate (d + 1) [.ref 105, .int a, .int x, .int y, .int h] T (fun v T' => v = (mNG T a x y h).1 ∧ T' = (mNG T a x y h).2) := by
  have hG' := hG
  obtain ⟨⟨g, hg4, h66⟩, -⟩ := hG
  have full : mNGf T h → zW l Gr (zc n w) 168 M_Mo_newGate (d + 1) 17 [some (.ref 105), none, none, none, none] [] T (fun v T' => ∃ x_1, v = some (.int x_1) ∧ x_1 = (mNG T a x y h).1 ∧ T' = (mNG T a x y h).2) := fun z => by
    refine b_Mo_newGate_17 hg (wm_pla hG') (fun v A hv => ?_)
    rw [hv.1, hv.2]
    refine b_Mo_newGate_24 hg wm_fl (fun A eA => b_Mo_newGate_27 ⟨_, rfl, ?_, ?_⟩)
    · unfold mNG; rw [if_pos z]
    · unfold mNG; rw [if_pos z]; exact eA
  refine e_Mo_newGate (b_Mo_newGate_0 (fun z => full (Or.inl z)) (fun z => b_Mo_newGate_9 (fun z2 => ?_) (fun z2 => full (Or.inr z2))))
  have nf : ¬ mNGf T h := fun q => q.elim z (fun q => q z2)
  have hlt : g < 40000 := by
    by_cases q : g = 40000
    · rw [h66, q] at z
      exact absurd rfl z
    · omega
  have eN : mNG T a x y h = (2 * ((T.1 73 65 + (T.1 73 66 + 1)) - 1), mNGs T a x y h) := by unfold mNG; rw [if_neg nf]
  rw [eN]
  obtain ⟨X, eX⟩ : ∃ X, X = zi (zi (zi (zi (zi (zi T 111 (T.1 73 66).toNatClampNeg a) 112 (T.1 73 66).toNatClampNeg h) 113 (T.1 73 66).toNatClampNeg x) 114 (T.1 73 66).toNatClampNeg y) 73 66 (T.1 73 66 + 1)) 73 67 (T.1 73 67 + a) := ⟨_, rfl⟩
  have x8 : X.1 73 68 = T.1 73 68 := by rw [eX, zi_k (by decide), zi_k (by decide), zi_c (by decide), zi_c (by decide), zi_c (by decide), zi_c (by decide)]
  have x5 : X.1 73 65 = T.1 73 65 := by rw [eX, zi_k (by decide), zi_k (by decide), zi_c (by decide), zi_c (by decide), zi_c (by decide), zi_c (by decide)]
  have x6 : X.1 73 66 = T.1 73 66 + 1 := by rw [eX, zi_k (by decide)]; exact zi_v
  have fin : ∀ o : Int32, o = (if h ≤ T.1 73 68 then T.1 73 68 else h) → zW l Gr (zc n w) 168 M_Mo_newGate (d + 1) 110 [some (.ref 105), none, none, none, none] [.int o, .ref 105] X (fun v T' => ∃ x_1, v = some (.int x_1) ∧ x_1 = 2 * ((T.1 73 65 + (T.1 73 66 + 1)) - 1) ∧ T' = mNGs T a x y h) := fun o ho => by
    refine b_Mo_newGate_110 ⟨_, rfl, ?_, ?_⟩
    · rw [x5, x6]
    · unfold mNGs
      rw [← ho, eX]
  refine b_Mo_newGate_30 (by rw [h66]; exact vp_in_nI hlt (by omega)) (fun z3 => b_Mo_newGate_106 ?_) (fun z3 => b_Mo_newGate_101 ?_)
  · rw [← eX, x8]
    exact fin _ (by rw [if_pos z3])
  · rw [← eX]
    exact fin _ (by rw [if_neg z3])
theorem wm_xor (hg : ip_gk (lg_tbl, vwCl, Gr)) (hG : GM T) (hx : VL T x) (hy : VL T y) : zMi l Gr (zc n w) 168 M_Mo_xor (d + 2) [.ref 105, .int x, .int y] T (fun v T' => v = (mXor T x y).1 ∧ T' = (mXor T x y).2) := by
  refine e_Mo_xor (b_Mo_xor_0 (fun z => b_Mo_xor_10 (fun z2 => b_Mo_xor_20 (fun z3 => b_Mo_xor_40 hg (wm_lev hG hx) (fun v A hv => ?_)) (fun z3 => b_Mo_xor_35 ⟨_, rfl, ?_⟩)) (fun z2 => b_Mo_xor_14 ⟨_, rfl, ?_⟩)) (fun z => b_Mo_xor_4 ⟨_, rfl, ?_⟩))
  · rw [hv.1, hv.2]
    refine b_Mo_xor_45 hg (wm_lev hG hy) (fun v A hv => ?_)
    rw [hv.1, hv.2]
    have fin : ∀ o : Int32, o = mMx (mLv T x) (mLv T y) → zW l Gr (zc n w) 168 M_Mo_xor (d + 2) 78 [none, none, none, some (.int ((x ^^^ y) &&& 1)), none, none] [.int o, .int (y &&& (-2)), .int (x &&& (-2)), .int 0, .ref 105] T (fun v T' => ∃ x_1, v = some (.int x_1) ∧ x_1 = (mXor T x y).1 ∧ T' = (mXor T x y).2) := fun o ho => by
      rw [ho]
      refine b_Mo_xor_78 hg (wm_ng hg hG) (fun v A hv => b_Mo_xor_81 ⟨_, rfl, ?_⟩)
      unfold mXor
      rw [if_neg (fun q => q z), if_neg (fun q => q z2), if_neg z3, hv.1]
      exact ⟨rfl, hv.2⟩
    exact b_Mo_xor_52 (fun z4 => b_Mo_xor_76 (fin _ (by unfold mMx; rw [if_pos z4]))) (fun z4 => b_Mo_xor_71 (fin _ (by unfold mMx; rw [if_neg z4])))
  · unfold mXor
    rw [if_neg (fun q => q z), if_neg (fun q => q z2), if_pos z3]
    exact ⟨rfl, rfl⟩
  · unfold mXor
    rw [if_neg (fun q => q z), if_pos z2]
    exact ⟨rfl, rfl⟩
  · unfold mXor
    rw [if_pos z]
    exact ⟨rfl, rfl⟩
theorem wm_and (hg : ip_gk (lg_tbl, vwCl, Gr)) (hG : GM T) (hx : VL T x) (hy : VL T y) : zMi l Gr (zc n w) 168 M_Mo_and (d + 2) [.ref 105, .int x, .int y] T (fun v T' => v = (mAnd T x y).1 ∧ T' = (mAnd T x y).2) := by
  refine e_Mo_and (b_Mo_and_0 (fun z => b_Mo_and_16 (fun z2 => b_Mo_and_32 (fun z3 => b_Mo_and_53 hg (wm_lev hG hx) (fun v A hv => ?_)) (fun z3 => b_Mo_and_41 (fun z4 => b_Mo_and_50 (b_Mo_and_52 ⟨_, rfl, ?_⟩)) (fun z4 => b_Mo_and_46 (b_Mo_and_52 ⟨_, rfl, ?_⟩)))) (fun z2 => b_Mo_and_20 (fun z4 => b_Mo_and_29 (b_Mo_and_31 ⟨_, rfl, ?_⟩)) (fun z4 => b_Mo_and_25 (b_Mo_and_31 ⟨_, rfl, ?_⟩)))) (fun z => b_Mo_and_4 (fun z4 => b_Mo_and_13 (b_Mo_and_15 ⟨_, rfl, ?_⟩)) (fun z4 => b_Mo_and_9 (b_Mo_and_15 ⟨_, rfl, ?_⟩))))
  · rw [hv.1, hv.2]
    refine b_Mo_and_58 hg (wm_lev hG hy) (fun v A hv => ?_)
    rw [hv.1, hv.2]
    have fin : ∀ o : Int32, o = mMx (mLv T x) (mLv T y) → zW l Gr (zc n w) 168 M_Mo_and (d + 2) 83 [none, none, none, none, none] [.int o, .int 1, .int y, .int x, .int 1, .ref 105] T (fun v T' => ∃ x_1, v = some (.int x_1) ∧ x_1 = (mAnd T x y).1 ∧ T' = (mAnd T x y).2) := fun o ho => by
      rw [ho]
      refine b_Mo_and_83 hg (wm_ng hg hG) (fun v A hv => b_Mo_and_87 ⟨_, rfl, ?_⟩)
      unfold mAnd
      rw [if_neg (fun q => q z), if_neg (fun q => q z2), if_neg z3]
      exact hv
    exact b_Mo_and_64 (fun z4 => b_Mo_and_81 (fin _ (by unfold mMx; rw [if_pos z4]))) (fun z4 => b_Mo_and_77 (fin _ (by unfold mMx; rw [if_neg z4])))
  · unfold mAnd
    rw [if_neg (fun q => q z), if_neg (fun q => q z2), if_pos z3, if_neg z4]
    exact ⟨rfl, rfl⟩
  · unfold mAnd
    rw [if_neg (fun q => q z), if_neg (fun q => q z2), if_pos z3, if_pos z4]
    exact ⟨rfl, rfl⟩
  · unfold mAnd
    rw [if_neg (fun q => q z), if_pos z2, if_neg z4]
    exact ⟨rfl, rfl⟩
  · unfold mAnd
    rw [if_neg (fun q => q z), if_pos z2, if_pos z4]
    exact ⟨rfl, rfl⟩
  · unfold mAnd
    rw [if_pos z, if_neg z4]
    exact ⟨rfl, rfl⟩
  · unfold mAnd
    rw [if_pos z, if_pos z4]
    exact ⟨rfl, rfl⟩
end MCI
