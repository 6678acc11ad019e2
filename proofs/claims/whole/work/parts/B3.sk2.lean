/-! the class's SORTS: the small methods -/
def kT (S : zS) (f pl : Int32) : zS := if S.1 3 5 = 0 then cF S f pl else S
def kTop (S : zS) : Int32 := S.1 40 (S.1 39 3 - 1).toNatClampNeg
def kPop (S : zS) : zS := zi S 39 3 (S.1 39 3 - 1)
def kPush (S : zS) (x : Int32) : zS := zi (zi S 39 3 (S.1 39 3 + 1)) 40 (S.1 39 3).toNatClampNeg x
def kMust (S : zS) (r : Int32) (i : Nat) : zS := if kTop S &&& 1 = r then kPop S else kT (kPop S) 5 ((kPop S).1 6 i)
def kPub (S : zS) (x pl : Int32) : zS := if x &&& 2 = 0 then kT S 6 pl else S
def kShow (S : zS) (d : Int32) : zS := zi (zi S 8 11 (S.1 8 11 + 1)) 16 (S.1 8 11).toNatClampNeg d
def kOpen (S : zS) : zS := zi (zi S 39 5 (S.1 39 5 + 1)) 41 (S.1 39 5).toNatClampNeg (S.1 8 11)
def kClose (S : zS) : zS := zi (zi S 39 5 (S.1 39 5 - 1)) 8 11 (ip_min (S.1 8 11) (S.1 41 (S.1 39 5 - 1).toNatClampNeg))
def kOpenIf (S : zS) : zS := zi (zi (zi (zi S 42 (S.1 39 9).toNatClampNeg (S.1 39 10)) 43 (S.1 39 9).toNatClampNeg 256) 44 (S.1 39 9).toNatClampNeg 0) 39 9 (S.1 39 9 + 1)
def kWiden (S : zS) (k : Nat) (a c : Int32) : zS := zi (zi S 43 k (ip_min (S.1 43 k) a)) 44 k (ip_max (S.1 44 k) c)
def kNote (S : zS) (d : Nat) : zS := if S.1 39 9 ≤ 0 then S else kWiden S (S.1 39 9 - 1).toNatClampNeg (S.1 14 d) (S.1 14 d + ip_max 1 (S.1 13 d))
def kIn (b : Nat → Int32) (t : Nat) (S : zS) (i : Nat) : zS := if kFind b t S (S.1 6 i).toNatClampNeg = -1 then S else kT S 4 (S.1 6 i)
def kRes (b : Nat → Int32) (t : Nat) (S : zS) (i : Nat) : zS := zi (if kFind b t S (S.1 6 i).toNatClampNeg = -1 then kT S 4 (S.1 6 i) else S) 5 i (kFind b t S (S.1 6 i).toNatClampNeg)
section SK1
variable {l : Launch} {Gr : zG} {n w : Nat} {d : Nat} {b : Nat → Int32} {t p i m f D : Nat} {S S' : zS}
theorem w_tl {x1 x2 : Int32} (hx : ¬ x1 = 0 := by decide) : zMv l Gr (zc n w) 168 M_Code_tell d [.ref 35, .int x1, .int x2] S (fun S' => S' = kT S x1 x2) := by
  unfold kT
  by_cases z : S.1 3 5 = 0
  · rw [if_pos z]; exact w_tell z hx
  · rw [if_neg z]; exact w_tellN z
theorem kT_c {x1 x2 : Int32} {c k : Nat} (h : ¬ (c = 3 ∧ (k = 5 ∨ k = 6))) : (kT S x1 x2).1 c k = S.1 c k := by
  unfold kT
  by_cases z : S.1 3 5 = 0
  · rw [if_pos z]
    show (zi (zi S 3 5 x1) 3 6 x2).1 c k = _
    rw [zi_get, if_neg (by omega), zi_get, if_neg (by omega)]
  · rw [if_neg z]
theorem w_push {x : Int32} (h : S.1 39 3 = nI m) (hm : m < 372) : zMv l Gr (zc n w) 168 M_Sorts_push d [.ref 71, .int x] S (fun S' => S' = kPush S x) :=
  e_Sorts_push (b_Sorts_push_0 (fun z => by rw [h] at z; exact absurd z (nI_ge (a := m) (b := 372) (by omega) (by omega))) (fun _ => b_Sorts_push_12 (by rw [h]; exact vp_in_nI hm (by omega)) (b_Sorts_push_29 ⟨rfl, rfl⟩)))
theorem w_pop (h : S.1 39 3 = nI (m + 1)) (hm : m < 372) : zMi l Gr (zc n w) 168 M_Sorts_pop d [.ref 71] S (fun v S' => v = kTop S ∧ S' = kPop S) :=
  e_Sorts_pop (b_Sorts_pop_0 (fun _ => b_Sorts_pop_9 (by rw [h, nI_pred]; exact vp_in_nI hm (by omega)) ⟨_, rfl, rfl, rfl⟩) (fun z => by
    rw [h] at z
    exact absurd ((nI_eq (a := m + 1) (b := 0) (by omega) (by omega)).mp z) (by omega)))
theorem w_sortOf {x : Int32} : zMi l Gr (zc n w) 168 M_Sorts_sortOf d [.int x] S (fun v S' => v = x &&& 1 ∧ S' = S) := e_Sorts_sortOf (b_Sorts_sortOf_0 ⟨_, rfl, rfl, rfl⟩)
theorem w_mustBe (hg : ip_gk (lg_tbl, vwCl, Gr)) {r : Int32} (h : S.1 39 3 = nI (m + 1)) (hm : m < 372) (hi : i < 4000) : zMi l Gr (zc n w) 168 M_Sorts_mustBe (d + 1) [.ref 71, .int r, .int (nI i)] S (fun v S' => v = kTop S ∧ S' = kMust S r i) := by
  refine e_Sorts_mustBe (b_Sorts_mustBe_0 hg (w_pop h hm) (fun v A hv => ?_))
  rw [hv.1, hv.2]
  refine b_Sorts_mustBe_4 hg w_sortOf (fun v A hv => ?_)
  rw [hv.1, hv.2]
  refine b_Sorts_mustBe_9 (fun z => b_Sorts_mustBe_30 ⟨_, rfl, rfl, ?_⟩) (fun z => b_Sorts_mustBe_13 hg (vp_in_nI hi (by omega)) w_tl (fun A eA => b_Sorts_mustBe_30 ⟨_, rfl, rfl, ?_⟩))
  · unfold kMust; rw [if_pos z]
  · rw [eA, nI_clamp (by omega)]
    unfold kMust; rw [if_neg z]
theorem w_pub (hg : ip_gk (lg_tbl, vwCl, Gr)) {x pl : Int32} : zMv l Gr (zc n w) 168 M_Sorts_mustBePublic (d + 1) [.ref 71, .int x, .int pl] S (fun S' => S' = kPub S x pl) := by
  refine e_Sorts_mustBePublic (b_Sorts_mustBePublic_0 (fun z => b_Sorts_mustBePublic_16 ⟨rfl, ?_⟩) (fun z => b_Sorts_mustBePublic_6 hg w_tl (fun A eA => b_Sorts_mustBePublic_16 ⟨rfl, ?_⟩)))
  · unfold kPub; rw [if_neg z]
  · rw [eA]; unfold kPub; rw [if_pos z]
theorem w_show {x : Int32} (h : S.1 8 11 = nI m) (hm : m < 800) : zMv l Gr (zc n w) 168 M_Names_show d [.ref 40, .int x] S (fun S' => S' = kShow S x) :=
  e_Names_show (b_Names_show_0 (fun z => by rw [h] at z; exact absurd z (nI_ge (a := m) (b := 800) (by omega) (by omega))) (fun _ => b_Names_show_10 (by rw [h]; exact vp_in_nI hm (by omega)) (b_Names_show_27 ⟨rfl, rfl⟩)))
theorem w_isArr {dd : Nat} (hd : dd < 800) : zMi l Gr (zc n w) 168 M_Names_isArray d [.ref 40, .int (nI dd)] S (fun v S' => v = (if S.1 13 dd ≤ 0 then 0 else 1) ∧ S' = S) := by
  refine e_Names_isArray (b_Names_isArray_0 (vp_in_nI hd (by omega)) (fun z => b_Names_isArray_13 (b_Names_isArray_14 ⟨_, rfl, Or.inl rfl, ?_, rfl⟩)) (fun z => b_Names_isArray_9 (b_Names_isArray_14 ⟨_, rfl, Or.inr rfl, ?_, rfl⟩)))
  · rw [nI_clamp (by omega)] at z; rw [if_pos z]
  · rw [nI_clamp (by omega)] at z; rw [if_neg z]
theorem w_wrds {dd : Nat} (hd : dd < 800) : zMi l Gr (zc n w) 168 M_Names_words (d + 1) [.ref 40, .int (nI dd)] S (fun v S' => v = ip_max 1 (S.1 13 dd) ∧ S' = S) :=
  e_Names_words (b_Names_words_0 (vp_in_nI hd (by omega)) ⟨_, rfl, by rw [nI_clamp (by omega)], rfl⟩)
theorem w_openScope (h : S.1 39 5 = nI m) (hm : m < 31) : zMv l Gr (zc n w) 168 M_Sorts_openScope d [.ref 71] S (fun S' => S' = kOpen S) :=
  e_Sorts_openScope (b_Sorts_openScope_0 (fun z => by rw [h] at z; exact absurd z (nI_ge (a := m) (b := 31) (by omega) (by omega))) (fun _ => b_Sorts_openScope_12 (by rw [h]; exact vp_in_nI hm (by omega)) (b_Sorts_openScope_35 ⟨rfl, rfl⟩)))
theorem w_closeScope (hg : ip_gk (lg_tbl, vwCl, Gr)) (h : S.1 39 5 = nI (m + 1)) (hm : m < 31) : zMv l Gr (zc n w) 168 M_Sorts_closeScope (d + 2) [.ref 71] S (fun S' => S' = kClose S) := by
  refine e_Sorts_closeScope (b_Sorts_closeScope_0 (fun z => ?_) (fun _ => b_Sorts_closeScope_7 (R := fun S' => S' = kClose S) hg (by rw [h, nI_pred]; exact vp_in_nI hm (by omega)) (e_Names_hideFrom (b_Names_hideFrom_0 ⟨rfl, ?_⟩)) (fun A eA => b_Sorts_closeScope_33 ⟨rfl, eA⟩)))
  · rw [h] at z
    exact absurd z (nI_ge (a := 0) (b := m + 1) (by omega) (by omega))
  · unfold kClose
    rw [zi_c (by decide)]
theorem w_openIf (h : S.1 39 9 = nI m) (hm : m < 31) : zMv l Gr (zc n w) 168 M_Sorts_openIf d [.ref 71] S (fun S' => S' = kOpenIf S) :=
  e_Sorts_openIf (b_Sorts_openIf_0 (fun z => by rw [h] at z; exact absurd z (nI_ge (a := m) (b := 31) (by omega) (by omega))) (fun _ => b_Sorts_openIf_12 (by rw [h]; exact vp_in_nI hm (by omega)) (b_Sorts_openIf_57 ⟨rfl, rfl⟩)))
theorem w_widen {x : Int32} {k : Nat} {x2 x3 : Int32} (hx : x = nI k) (hk : k < 31) : zMv l Gr (zc n w) 168 M_Sorts_widen (d + 1) [.ref 71, .int x, .int x2, .int x3] S (fun S' => S' = kWiden S k x2 x3) := by
  subst hx
  refine e_Sorts_widen (b_Sorts_widen_0 (vp_in_nI hk (by omega)) ⟨rfl, ?_⟩)
  rw [nI_clamp (by omega)]
  rfl
theorem w_note (hg : ip_gk (lg_tbl, vwCl, Gr)) {dd : Nat} (hd : dd < 800) (h : S.1 39 9 = nI m) (hm : m ≤ 31) : zMv l Gr (zc n w) 168 M_Sorts_noteAssigned (d + 2) [.ref 71, .int (nI dd)] S (fun S' => S' = kNote S dd) := by
  refine e_Sorts_noteAssigned (b_Sorts_noteAssigned_0 (fun z => b_Sorts_noteAssigned_44 ⟨rfl, ?_⟩) (fun z => b_Sorts_noteAssigned_7 hg (vp_in_nI hd (by omega)) (w_wrds hd) (fun v A hv => ?_)))
  · unfold kNote; rw [if_pos z]
  · rw [hv.1, hv.2, nI_clamp (by omega)]
    cases m with
    | zero => exact absurd (by rw [h]; decide) z
    | succ m =>
      have e1 : S.1 39 9 - 1 = nI m := by rw [h]; exact nI_pred m
      refine b_Sorts_noteAssigned_40 hg (w_widen (k := m) e1 (by omega)) (fun A eA => b_Sorts_noteAssigned_44 ⟨rfl, ?_⟩)
      rw [eA]
      unfold kNote
      rw [if_neg z, e1, nI_clamp (by omega)]
theorem w_comeIn (hg : ip_gk (lg_tbl, vwCl, Gr)) (hT : KT b t D S) (hV : KV S m f D) (hi : i < 4000) (hp : p ≤ t) (h6 : S.1 6 i = nI p) : zMv l Gr (zc n w) 168 M_Sorts_comeIn (d + 3) [.ref 71, .int (nI i)] S (fun S' => S' = kIn b t S i) := by
  have ht := hT.2.1
  have ep : (S.1 6 i).toNatClampNeg = p := by rw [h6]; exact nI_clamp (by omega)
  refine e_Sorts_comeIn (b_Sorts_comeIn_0 (R := fun v S' => S' = S ∧ v = kFind b t S p) hg (vp_in_nI hi (by omega)) (by rw [nI_clamp (by omega), h6]; exact w_find hg hT hV hp) (fun v A hv => ?_))
  rw [hv.1, hv.2]
  refine b_Sorts_comeIn_16 (fun z => b_Sorts_comeIn_37 ⟨rfl, ?_⟩) (fun z => b_Sorts_comeIn_20 hg (vp_in_nI hi (by omega)) w_tl (fun A eA => b_Sorts_comeIn_37 ⟨rfl, ?_⟩))
  · unfold kIn; rw [ep, if_pos z]
  · rw [eA, nI_clamp (by omega)]; unfold kIn; rw [ep, if_neg z]
theorem w_resolve (hg : ip_gk (lg_tbl, vwCl, Gr)) (hT : KT b t D S) (hV : KV S m f D) (hi : i < 4000) (hp : p ≤ t) (h6 : S.1 6 i = nI p) : zMi l Gr (zc n w) 168 M_Sorts_resolve (d + 3) [.ref 71, .int (nI i)] S (fun v S' => v = kFind b t S p ∧ S' = kRes b t S i) := by
  have ht := hT.2.1
  have ep : (S.1 6 i).toNatClampNeg = p := by rw [h6]; exact nI_clamp (by omega)
  refine e_Sorts_resolve (b_Sorts_resolve_0 (R := fun v S' => S' = S ∧ v = kFind b t S p) hg (vp_in_nI hi (by omega)) (by rw [nI_clamp (by omega), h6]; exact w_find hg hT hV hp) (fun v A hv => ?_))
  rw [hv.1, hv.2]
  refine b_Sorts_resolve_16 (fun z => b_Sorts_resolve_39 (vp_in_nI hi (by omega)) ⟨_, rfl, rfl, ?_⟩) (fun z => b_Sorts_resolve_22 hg (vp_in_nI hi (by omega)) w_tl (fun A eA => b_Sorts_resolve_39 (vp_in_nI hi (by omega)) ⟨_, rfl, rfl, ?_⟩))
  · rw [nI_clamp (by omega)]; unfold kRes; rw [ep, if_neg z]
  · rw [eA, nI_clamp (by omega)]; unfold kRes; rw [ep, if_pos z]
/-- what a NAME means there: nothing, or one of those that came in -/
theorem kf_in (hV : KV S m f D) : ∀ v, v ≤ m → kf b t S p v = -1 ∨ ∃ u d, u < v ∧ d < D ∧ S.1 16 u = nI d ∧ kf b t S p v = nI d
  | 0, _ => Or.inl rfl
  | v + 1, h => by
    by_cases z : (S.1 8 12 ≤ nI v ∨ S.1 11 (S.1 16 v).toNatClampNeg = 4) ∧ wW b t (S.1 9 (S.1 16 v).toNatClampNeg).toNatClampNeg = wW b t p
    · obtain ⟨d, hd, e⟩ := hV.2.2.2.2 v (by omega)
      right
      refine ⟨v, d, by omega, hd, e, ?_⟩
      show (if _ then _ else _) = _
      rw [if_pos z, e]
    · have e : kf b t S p (v + 1) = kf b t S p v := by
        show (if _ then _ else _) = _
        rw [if_neg z]
      rw [e]
      rcases kf_in hV v (by omega) with h | ⟨u, d, h1, h2⟩
      · exact Or.inl h
      · exact Or.inr ⟨u, d, by omega, h2⟩
theorem kFind_in (hV : KV S m f D) : kFind b t S p = -1 ∨ ∃ u d, u < m ∧ d < D ∧ S.1 16 u = nI d ∧ kFind b t S p = nI d := by
  have hm := hV.2.1
  unfold kFind
  rw [hV.1, nI_clamp (by omega)]
  exact kf_in hV m (Nat.le_refl _)
theorem nI_no {v : Nat} (h : v < 100000) : ¬ nI v = -1 := fun y => absurd (show (-1 : Int32) < 0 by decide) (by rw [← y]; exact nI_pos (by omega))
end SK1
