/-! the class's circuit: each step as a function of the store -/
def kLv (S : zS) (x : Int32) : Int32 := if (x >>> (1 &&& 31)) - S.1 24 8 < 0 ∨ ¬ (x >>> (1 &&& 31)) - S.1 24 8 < S.1 24 4 then 0 else S.1 27 ((x >>> (1 &&& 31)) - S.1 24 8).toNatClampNeg
abbrev kNGf (S : zS) (h : Int32) : Prop := ¬ S.1 24 7 = 0 ∨ 40000 ≤ S.1 24 4 ∨ ¬ h ≤ 2000
def kNGs (S : zS) (x y a h : Int32) : zS := zi (zi (zi (zi (zi (zi (zi (zi S 24 7 0) 25 (S.1 24 4).toNatClampNeg x) 26 (S.1 24 4).toNatClampNeg y) 27 (S.1 24 4).toNatClampNeg h) 28 (S.1 24 4).toNatClampNeg (if a = 0 then -1 else S.1 24 5)) 24 5 (S.1 24 5 + (if a = 0 then 0 else 1))) 24 6 (ip_max (S.1 24 6) h)) 24 4 (S.1 24 4 + 1)
def kNG (S : zS) (x y a h : Int32) : Int32 × zS := if kNGf S h then (-2, zi S 24 7 1) else (2 * ((S.1 24 8 + (S.1 24 4 + 1)) - 1), kNGs S x y a h)
def kXor (S : zS) (x y : Int32) : Int32 × zS := if ¬ 0 ≤ x then (y ^^^ (x &&& 1), S) else if ¬ 0 ≤ y then (x ^^^ (y &&& 1), S) else if (x >>> (1 &&& 31)) = (y >>> (1 &&& 31)) then ((-2) ^^^ ((x ^^^ y) &&& 1), S) else ((kNG S (x &&& (-2)) (y &&& (-2)) 0 (ip_max (kLv S x) (kLv S y))).1 ^^^ ((x ^^^ y) &&& 1), (kNG S (x &&& (-2)) (y &&& (-2)) 0 (ip_max (kLv S x) (kLv S y))).2)
def kAnd (S : zS) (x y : Int32) : Int32 × zS := if ¬ 0 ≤ x then (if x = -1 then y else -2, S) else if ¬ 0 ≤ y then (if y = -1 then x else -2, S) else if (x >>> (1 &&& 31)) = (y >>> (1 &&& 31)) then (if x = y then x else -2, S) else kNG S x y 1 (1 + ip_max (kLv S x) (kLv S y))
def kOr (S : zS) (x y : Int32) : Int32 × zS := ((kAnd S (x ^^^ 1) (y ^^^ 1)).1 ^^^ 1, (kAnd S (x ^^^ 1) (y ^^^ 1)).2)
def kMux (S : zS) (c x y : Int32) : Int32 × zS := kXor (kAnd (kXor S x y).2 c (kXor S x y).1).2 y (kAnd (kXor S x y).2 c (kXor S x y).1).1
/-- the class's circuit has room for what it says -/
def GK (S : zS) : Prop := ∃ g, g ≤ 40000 ∧ S.1 24 4 = nI g
section KCI
variable {l : Launch} {Gr : zG} {n w : Nat} {d : Nat} {S S' : zS} {x y a h c : Int32} {g : Nat}
theorem nI_inn {x : Int32} (h0 : ¬ x < 0) (h1 : x < nI g) (hg : g ≤ 100000) : ∃ k, k < g ∧ x = nI k := by
  obtain ⟨k, hk, rfl⟩ := nI_of2 (M := nI g) (n := g) (nI_toInt (by omega)) h0 (Int32.le_of_lt h1)
  refine ⟨k, ?_, rfl⟩
  by_cases z : k < g
  · exact z
  · exact absurd h1 (nI_nlt (by omega) (by omega))
theorem w_lev (hG : GK S) : zMi l Gr (zc n w) 168 M_Circuit_levelOf d [.ref 56, .int x] S (fun v S' => v = kLv S x ∧ S' = S) := by
  obtain ⟨g, hg, h4⟩ := hG
  refine e_Circuit_levelOf (b_Circuit_levelOf_0 (fun z => b_Circuit_levelOf_21 (b_Circuit_levelOf_31 ⟨_, rfl, ?_, rfl⟩)) (fun z => b_Circuit_levelOf_13 (fun z2 => b_Circuit_levelOf_25 ?_ (b_Circuit_levelOf_31 ⟨_, rfl, ?_, rfl⟩)) (fun z2 => b_Circuit_levelOf_21 (b_Circuit_levelOf_31 ⟨_, rfl, ?_, rfl⟩))))
  · unfold kLv; rw [if_pos (Or.inl z)]
  · rw [h4] at z2
    obtain ⟨k, hk, e⟩ := nI_inn z z2 (by omega)
    rw [e]
    exact vp_in_nI (by omega) (by omega)
  · unfold kLv; rw [if_neg (fun q => q.elim z (fun q => q z2))]
  · unfold kLv; rw [if_pos (Or.inr z2)]
theorem GK_ng (hG : GK S) : GK (kNG S x y a h).2 := by
  obtain ⟨g, hg, h4⟩ := hG
  unfold kNG
  by_cases z : kNGf S h
  · rw [if_pos z]
    exact ⟨g, hg, (zi_k (by decide)).trans h4⟩
  · rw [if_neg z]
    have hlt : g < 40000 := by
      by_cases q : g < 40000
      · exact q
      · exact absurd (Or.inr (Or.inl (by rw [h4]; exact nI_le (a := 40000) (b := g) (by omega) (by omega)))) z
    refine ⟨g + 1, by omega, ?_⟩
    show (zi _ 24 4 (S.1 24 4 + 1)).1 24 4 = _
    rw [zi_v, h4, nI_1]
theorem w_ng (hG : GK S) (ha : a = 0 ∨ a = 1) : zMi l Gr (zc n w) 168 M_Circuit_newGate (d + 1) [.ref 56, .int x, .int y, .int a, .int h] S (fun v S' => v = (kNG S x y a h).1 ∧ S' = (kNG S x y a h).2) := by
  obtain ⟨g, hg, h4⟩ := hG
  have full : kNGf S h → zW l Gr (zc n w) 168 M_Circuit_newGate (d + 1) 25 [some (.ref 56), some (.int x), some (.int y), some (.int a), some (.int h)] [.ref 56] S (fun v S' => ∃ x_1, v = some (.int x_1) ∧ x_1 = (kNG S x y a h).1 ∧ S' = (kNG S x y a h).2) := fun z => by
    refine b_Circuit_newGate_25 (b_Circuit_newGate_30 rfl (fun q => absurd q (by decide)) (fun _ => b_Circuit_newGate_40 ⟨_, rfl, ?_, ?_⟩))
    · unfold kNG; rw [if_pos z]
    · unfold kNG; rw [if_pos z]
  refine e_Circuit_newGate (b_Circuit_newGate_0 (fun z => full (Or.inl z)) (fun z => b_Circuit_newGate_8 (fun z2 => full (Or.inr (Or.inl z2))) (fun z2 => b_Circuit_newGate_17 (fun z3 => ?_) (fun z3 => full (Or.inr (Or.inr z3))))))
  have nf : ¬ kNGf S h := fun q => q.elim (fun q => q z) (fun q => q.elim z2 (fun q => q z3))
  have hlt : g < 40000 := by
    by_cases q : g < 40000
    · exact q
    · exact absurd (by rw [h4]; exact nI_le (a := 40000) (b := g) (by omega) (by omega)) z2
  have e4 : (zi S 24 7 0).1 24 4 = nI g := (zi_k (by decide)).trans h4
  have eN : kNG S x y a h = (2 * ((S.1 24 8 + (S.1 24 4 + 1)) - 1), kNGs S x y a h) := by unfold kNG; rw [if_neg nf]
  rw [eN]
  obtain ⟨X, eX⟩ : ∃ X, X = zi (zi (zi (zi S 24 7 0) 25 g x) 26 g y) 27 g h := ⟨_, rfl⟩
  have x5 : X.1 24 5 = S.1 24 5 := by rw [eX, zi_c (by decide), zi_c (by decide), zi_c (by decide), zi_k (by decide)]
  have x4 : X.1 24 4 = nI g := by rw [eX, zi_c (by decide), zi_c (by decide), zi_c (by decide)]; exact e4
  have x6 : X.1 24 6 = S.1 24 6 := by rw [eX, zi_c (by decide), zi_c (by decide), zi_c (by decide), zi_k (by decide)]
  have x8 : X.1 24 8 = S.1 24 8 := by rw [eX, zi_c (by decide), zi_c (by decide), zi_c (by decide), zi_k (by decide)]
  have fin : ∀ m o : Int32, m = (if a = 0 then -1 else S.1 24 5) → o = (if a = 0 then 0 else 1) → zW l Gr (zc n w) 168 M_Circuit_newGate (d + 1) 109 [some (.ref 56), none, none, none, some (.int h)] [.int o, .int (S.1 24 5), .ref 56] (zi X 28 g m) (fun v S' => ∃ x_1, v = some (.int x_1) ∧ x_1 = 2 * ((S.1 24 8 + (S.1 24 4 + 1)) - 1) ∧ S' = kNGs S x y a h) := fun m o hm ho => by
    have y6 : (zi X 28 g m).1 24 6 = S.1 24 6 := by rw [zi_c (by decide)]; exact x6
    have z4 : (zi (zi X 28 g m) 24 5 (S.1 24 5 + o)).1 24 4 = nI g := by rw [zi_k (by decide), zi_c (by decide)]; exact x4
    have z6 : (zi (zi X 28 g m) 24 5 (S.1 24 5 + o)).1 24 6 = S.1 24 6 := by rw [zi_k (by decide)]; exact y6
    have z8 : (zi (zi X 28 g m) 24 5 (S.1 24 5 + o)).1 24 8 = S.1 24 8 := by rw [zi_k (by decide), zi_c (by decide)]; exact x8
    have f2 : ∀ t : Int32, t = ip_max (S.1 24 6) h → zW l Gr (zc n w) 168 M_Circuit_newGate (d + 1) 132 [some (.ref 56), none, none, none, none] [.int t, .ref 56] (zi (zi X 28 g m) 24 5 (S.1 24 5 + o)) (fun v S' => ∃ x_1, v = some (.int x_1) ∧ x_1 = 2 * ((S.1 24 8 + (S.1 24 4 + 1)) - 1) ∧ S' = kNGs S x y a h) := fun t ht => by
      refine b_Circuit_newGate_132 ⟨_, rfl, ?_, ?_⟩
      · rw [z4, z8, h4]
      · unfold kNGs
        rw [z4, h4, nI_clamp (by omega), ← hm, ← ho, ← ht, eX]
    refine b_Circuit_newGate_109 (fun q => b_Circuit_newGate_128 (f2 _ ?_)) (fun q => b_Circuit_newGate_123 (f2 _ ?_))
    · rw [y6] at q
      rw [z6]; unfold ip_max
      rw [if_neg (Int32.not_lt.mpr q)]
    · rw [y6] at q
      unfold ip_max
      rw [if_pos (Int32.not_le.mp q)]
  refine b_Circuit_newGate_29 (b_Circuit_newGate_30 rfl (fun _ => b_Circuit_newGate_43 (by rw [e4]; exact vp_in_nI hlt (by omega)) (fun z0 => ?_) (fun z0 => ?_)) (fun q => absurd rfl q))
  · rw [e4, nI_clamp (by omega), ← eX]
    refine b_Circuit_newGate_93 (b_Circuit_newGate_94 (vp_in_nI hlt (by omega)) (fun _ => b_Circuit_newGate_108 ?_) (fun q => absurd z0 q))
    rw [nI_clamp (by omega), x5]
    exact fin _ _ (by rw [if_pos z0]) (by rw [if_pos z0])
  · rw [e4, nI_clamp (by omega), ← eX]
    refine b_Circuit_newGate_86 (b_Circuit_newGate_94 (vp_in_nI hlt (by omega)) (fun q => absurd q z0) (fun _ => b_Circuit_newGate_104 ?_))
    rw [nI_clamp (by omega), x5]
    exact fin _ _ (by rw [if_neg z0]) (by rw [if_neg z0])
theorem w_xor (hg : ip_gk (lg_tbl, vwCl, Gr)) (hG : GK S) : zMi l Gr (zc n w) 168 M_Circuit_xor (d + 2) [.ref 56, .int x, .int y] S (fun v S' => v = (kXor S x y).1 ∧ S' = (kXor S x y).2) := by
  refine e_Circuit_xor (b_Circuit_xor_0 (fun z => b_Circuit_xor_10 (fun z2 => b_Circuit_xor_20 (fun z3 => b_Circuit_xor_40 hg (w_lev hG) (fun v A hv => ?_)) (fun z3 => b_Circuit_xor_35 ⟨_, rfl, ?_⟩)) (fun z2 => b_Circuit_xor_14 ⟨_, rfl, ?_⟩)) (fun z => b_Circuit_xor_4 ⟨_, rfl, ?_⟩))
  · rw [hv.1, hv.2]
    refine b_Circuit_xor_55 hg (w_lev hG) (fun v A hv => ?_)
    rw [hv.1, hv.2]
    refine b_Circuit_xor_60 hg (w_ng hG (Or.inl rfl)) (fun v A hv => b_Circuit_xor_66 ⟨_, rfl, ?_⟩)
    unfold kXor
    rw [if_neg (fun q => q z), if_neg (fun q => q z2), if_neg z3, hv.1]
    exact ⟨rfl, hv.2⟩
  · unfold kXor
    rw [if_neg (fun q => q z), if_neg (fun q => q z2), if_pos z3]
    exact ⟨rfl, rfl⟩
  · unfold kXor
    rw [if_neg (fun q => q z), if_pos z2]
    exact ⟨rfl, rfl⟩
  · unfold kXor
    rw [if_pos z]
    exact ⟨rfl, rfl⟩
theorem w_and (hg : ip_gk (lg_tbl, vwCl, Gr)) (hG : GK S) : zMi l Gr (zc n w) 168 M_Circuit_and (d + 2) [.ref 56, .int x, .int y] S (fun v S' => v = (kAnd S x y).1 ∧ S' = (kAnd S x y).2) := by
  refine e_Circuit_and (b_Circuit_and_0 (fun z => b_Circuit_and_16 (fun z2 => b_Circuit_and_32 (fun z3 => b_Circuit_and_53 hg (w_lev hG) (fun v A hv => ?_)) (fun z3 => b_Circuit_and_41 (fun z4 => b_Circuit_and_50 (b_Circuit_and_52 ⟨_, rfl, ?_⟩)) (fun z4 => b_Circuit_and_46 (b_Circuit_and_52 ⟨_, rfl, ?_⟩)))) (fun z2 => b_Circuit_and_20 (fun z4 => b_Circuit_and_29 (b_Circuit_and_31 ⟨_, rfl, ?_⟩)) (fun z4 => b_Circuit_and_25 (b_Circuit_and_31 ⟨_, rfl, ?_⟩)))) (fun z => b_Circuit_and_4 (fun z4 => b_Circuit_and_13 (b_Circuit_and_15 ⟨_, rfl, ?_⟩)) (fun z4 => b_Circuit_and_9 (b_Circuit_and_15 ⟨_, rfl, ?_⟩))))
  · rw [hv.1, hv.2]
    refine b_Circuit_and_63 hg (w_lev hG) (fun v A hv => ?_)
    rw [hv.1, hv.2]
    refine b_Circuit_and_68 hg (w_ng hG (Or.inr rfl)) (fun v A hv => b_Circuit_and_75 ⟨_, rfl, ?_⟩)
    unfold kAnd
    rw [if_neg (fun q => q z), if_neg (fun q => q z2), if_neg z3]
    exact hv
  · unfold kAnd
    rw [if_neg (fun q => q z), if_neg (fun q => q z2), if_pos z3, if_neg z4]
    exact ⟨rfl, rfl⟩
  · unfold kAnd
    rw [if_neg (fun q => q z), if_neg (fun q => q z2), if_pos z3, if_pos z4]
    exact ⟨rfl, rfl⟩
  · unfold kAnd
    rw [if_neg (fun q => q z), if_pos z2, if_neg z4]
    exact ⟨rfl, rfl⟩
  · unfold kAnd
    rw [if_neg (fun q => q z), if_pos z2, if_pos z4]
    exact ⟨rfl, rfl⟩
  · unfold kAnd
    rw [if_pos z, if_neg z4]
    exact ⟨rfl, rfl⟩
  · unfold kAnd
    rw [if_pos z, if_pos z4]
    exact ⟨rfl, rfl⟩
theorem GK_xor (hG : GK S) : GK (kXor S x y).2 := by
  unfold kXor
  split
  · exact hG
  · split
    · exact hG
    · split
      · exact hG
      · exact GK_ng hG
theorem GK_and (hG : GK S) : GK (kAnd S x y).2 := by
  unfold kAnd
  split
  · exact hG
  · split
    · exact hG
    · split
      · exact hG
      · exact GK_ng hG
theorem GK_or (hG : GK S) : GK (kOr S x y).2 := GK_and hG
theorem GK_mux (hG : GK S) : GK (kMux S c x y).2 := GK_xor (GK_and (GK_xor hG))
theorem w_or (hg : ip_gk (lg_tbl, vwCl, Gr)) (hG : GK S) : zMi l Gr (zc n w) 168 M_Logic_or (d + 3) [.ref 82, .int x, .int y] S (fun v S' => v = (kOr S x y).1 ∧ S' = (kOr S x y).2) := by
  refine e_Logic_or (b_Logic_or_0 hg (w_and hg hG) (fun v A hv => b_Logic_or_13 ⟨_, rfl, ?_⟩))
  unfold kOr
  rw [hv.1]
  exact ⟨rfl, hv.2⟩
theorem w_mux (hg : ip_gk (lg_tbl, vwCl, Gr)) (hG : GK S) : zMi l Gr (zc n w) 168 M_Logic_mux (d + 3) [.ref 82, .int c, .int x, .int y] S (fun v S' => v = (kMux S c x y).1 ∧ S' = (kMux S c x y).2) := by
  refine e_Logic_mux (b_Logic_mux_0 hg (w_xor hg hG) (fun v A hv => ?_))
  rw [hv.1, hv.2]
  refine b_Logic_mux_19 hg (w_and hg (GK_xor hG)) (fun v A hv => ?_)
  rw [hv.1, hv.2]
  refine b_Logic_mux_22 hg (w_xor hg (GK_and (GK_xor hG))) (fun v A hv => b_Logic_mux_25 ⟨_, rfl, ?_⟩)
  exact hv
end KCI
