/-! the reference's SORTS: the small methods -/
def mv (T : zS) (v : Int32) : Nat → Int32
  | 0 => -1
  | s + 1 => if ¬ T.1 95 s = 0 ∧ T.1 90 s = v ∧ (T.1 73 47 = 0 ∨ T.1 91 s = 5 ∨ T.1 91 s = 4) then nI s else mv T v s
def mPl (T : zS) (m : Nat) (r p pb : Int32) : zS := zi (zi (zi (zi T 98 m r) 99 m p) 100 m (pb &&& 1)) 73 43 (nI (m + 1))
def mRf (T : zS) (j s : Nat) : zS := zi (zi (zi (zi T 102 j (T.1 91 s)) 103 j (T.1 94 s)) 104 j (T.1 93 s)) 105 j (T.1 92 s)
def mMu (T : zS) (m : Nat) (r : Int32) : zS := if T.1 73 7 = 0 ∧ ¬ T.1 98 m = r then mF T 5 (T.1 99 m) else T
def mPb (T : zS) (m : Nat) : zS := if T.1 73 7 = 0 ∧ T.1 100 m = 0 then mF T 6 (T.1 99 m) else T
def mSy (T : zS) (m : Nat) (v k r z a : Int32) : zS := zi (zi (zi (zi (zi (zi (zi T 90 m v) 91 m k) 92 m r) 93 m z) 94 m a) 95 m 1) 73 34 (nI (m + 1))
def mT (T : zS) (f pl : Int32) : zS := if T.1 73 7 = 0 then mF T f pl else T
/-- what the reference's SORTS never touches -/
def KMf (T T' : zS) : Prop := (∀ c k, ¬ ((c = 73 ∧ (k = 7 ∨ k = 8 ∨ k = 34 ∨ k = 43 ∨ k = 47 ∨ k = 49 ∨ k = 56 ∨ (59 ≤ k ∧ k ≤ 63))) ∨ c = 80 ∨ (89 ≤ c ∧ c ≤ 110)) → T'.1 c k = T.1 c k) ∧ ∀ c k, T'.2 c k = T.2 c k
theorem KMf_rfl {T : zS} : KMf T T := ⟨fun _ _ _ => rfl, fun _ _ => rfl⟩
theorem KMf_tr {T T' T'' : zS} (h1 : KMf T T') (h2 : KMf T' T'') : KMf T T'' := ⟨fun c k q => (h2.1 c k q).trans (h1.1 c k q), fun c k => (h2.2 c k).trans (h1.2 c k)⟩
theorem KMf_zi {T X : zS} {c k : Nat} {v : Int32} (hc : (c = 73 ∧ (k = 7 ∨ k = 8 ∨ k = 34 ∨ k = 43 ∨ k = 47 ∨ k = 49 ∨ k = 56 ∨ (59 ≤ k ∧ k ≤ 63))) ∨ c = 80 ∨ (89 ≤ c ∧ c ≤ 110)) (h : KMf T X) : KMf T (zi X c k v) := ⟨fun c' k' q => by
  rw [zi_get, if_neg (fun e => q (by obtain ⟨rfl, rfl⟩ := e; exact hc))]
  exact h.1 c' k' q, h.2⟩
theorem KMf_ite {T X Y : zS} {Pp : Prop} [Decidable Pp] (h1 : KMf T X) (h2 : KMf T Y) : KMf T (if Pp then X else Y) := by
  split
  · exact h1
  · exact h2
/-- the reference's SORTS goes from j to j' -/
def RG (l : Launch) (Gr : zG) (n w d : Nat) (T : zS) (j : Nat) (T' : zS) (j' : Nat) : Prop := KMf T T' ∧ ∀ Q, zW l Gr (zc n w) 168 M_Mo_sorts (d + 4) 37 [some (.ref 105), some (.int (nI j'))] [] T' Q → zW l Gr (zc n w) 168 M_Mo_sorts (d + 4) 37 [some (.ref 105), some (.int (nI j))] [] T Q
def RIx (T : zS) (j mz : Nat) : Prop := T.1 73 13 = nI mz ∧ mz ≤ 12000 ∧ T.1 73 7 = 0 ∧ j < mz
section MK8
variable {l : Launch} {Gr : zG} {n w : Nat} {d : Nat} {m M s j mz c : Nat} {T T' X : zS} {v r p pb : Int32}
theorem RG_rfl : RG l Gr n w d T j T j := ⟨KMf_rfl, fun _ h => h⟩
theorem RG_tr {T1 : zS} {j1 j' : Nat} (h1 : RG l Gr n w d T j T1 j1) (h2 : RG l Gr n w d T1 j1 T' j') : RG l Gr n w d T j T' j' := ⟨KMf_tr h1.1 h2.1, fun Q h => h1.2 Q (h2.2 Q h)⟩
theorem wm_fl {f pl : Int32} (hx : ¬ f = 0 := by decide) : zMv l Gr (zc n w) 168 M_Mo_fail d [.ref 105, .int f, .int pl] T (fun T' => T' = mT T f pl) := by
  unfold mT
  by_cases z : T.1 73 7 = 0
  · rw [if_pos z]; exact wm_fail z hx
  · rw [if_neg z]; exact wm_failN z
theorem mT_0 {f pl : Int32} (h : T.1 73 7 = 0) : mT T f pl = mF T f pl := if_pos h
theorem wm_vis (h34 : T.1 73 34 = nI m) (hm : m ≤ 2500) : zMi l Gr (zc n w) 168 M_Mo_visible d [.ref 105, .int v] T (fun x T' => T' = T ∧ x = mv T v m) := by
  have loop : ∀ (u s : Nat), s + u = m → zW l Gr (zc n w) 168 M_Mo_visible d 4 [some (.ref 105), some (.int v), some (.int (mv T v s)), some (.int (nI s)), none] [] T (fun x T' => ∃ y, x = some (.int y) ∧ T' = T ∧ y = mv T v m) := fun u => by
    induction u with
    | zero =>
      intro s hs
      have e : s = m := by omega
      subst e
      exact b_Mo_visible_4 (fun _ => b_Mo_visible_82 ⟨_, rfl, rfl, rfl⟩) (fun z => absurd (by rw [h34]; exact nI_le (Nat.le_refl _) (by omega)) z)
    | succ u ih =>
      intro s hs
      have hin : vp_in (nI s) 2500 := vp_in_nI (by omega) (by omega)
      have nx : ∀ x : Int32, x = mv T v (s + 1) → zW l Gr (zc n w) 168 M_Mo_visible d 75 [some (.ref 105), some (.int v), none, some (.int (nI s)), none] [.int x] T (fun x T' => ∃ y, x = some (.int y) ∧ T' = T ∧ y = mv T v m) := fun x hx => by
        refine b_Mo_visible_75 ?_
        rw [show nI s + Int32.ofInt 1 = nI (s + 1) from nI_1 s, hx]
        exact ih (s + 1) (by omega)
      have no : ¬ (¬ T.1 95 s = 0 ∧ T.1 90 s = v ∧ (T.1 73 47 = 0 ∨ T.1 91 s = 5 ∨ T.1 91 s = 4)) → zW l Gr (zc n w) 168 M_Mo_visible d 62 [some (.ref 105), some (.int v), some (.int (mv T v s)), some (.int (nI s)), none] [] T (fun x T' => ∃ y, x = some (.int y) ∧ T' = T ∧ y = mv T v m) := fun hn =>
        b_Mo_visible_62 (b_Mo_visible_63 (fun _ => b_Mo_visible_74 (nx _ (by show _ = (if _ then _ else _); rw [if_neg hn]))) (fun z => absurd rfl z))
      have yes : (¬ T.1 95 s = 0 ∧ T.1 90 s = v ∧ (T.1 73 47 = 0 ∨ T.1 91 s = 5 ∨ T.1 91 s = 4)) → zW l Gr (zc n w) 168 M_Mo_visible d 58 [some (.ref 105), some (.int v), some (.int (mv T v s)), some (.int (nI s)), none] [] T (fun x T' => ∃ y, x = some (.int y) ∧ T' = T ∧ y = mv T v m) := fun hy =>
        b_Mo_visible_58 (b_Mo_visible_63 (fun z => absurd z (by decide)) (fun _ => b_Mo_visible_70 (nx _ (by show _ = (if _ then _ else _); rw [if_pos hy]))))
      refine b_Mo_visible_4 (fun z => by rw [h34] at z; exact absurd z (nI_ge (by omega) (by omega))) (fun _ => b_Mo_visible_12 hin (fun z => no (fun q => q.1 ?_)) (fun z1 => b_Mo_visible_21 hin (fun z => no (fun q => z ?_)) (fun z2 => b_Mo_visible_31 (fun z3 => yes ⟨fun q => z1 ?_, ?_, Or.inl z3⟩) (fun z3 => b_Mo_visible_38 hin (fun z4 => yes ⟨fun q => z1 ?_, ?_, Or.inr (Or.inl ?_)⟩) (fun z4 => b_Mo_visible_48 hin (fun z5 => no (fun q => ?_)) (fun z5 => yes ⟨fun q => z1 ?_, ?_, Or.inr (Or.inr ?_)⟩))))))
      · rw [nI_clamp (by omega)] at z; exact z
      · rw [nI_clamp (by omega)]; exact q.2.1
      · rw [nI_clamp (by omega)]; exact q
      · rw [nI_clamp (by omega)] at z2; exact z2
      · rw [nI_clamp (by omega)]; exact q
      · rw [nI_clamp (by omega)] at z2; exact z2
      · rw [nI_clamp (by omega)] at z4; exact z4
      · rw [nI_clamp (by omega)] at z4 z5
        exact q.2.2.elim z3 (fun q => q.elim z4 z5)
      · rw [nI_clamp (by omega)]; exact q
      · rw [nI_clamp (by omega)] at z2; exact z2
      · rw [nI_clamp (by omega)] at z5; exact z5
  exact e_Mo_visible (b_Mo_visible_0 (loop m 0 (by omega)))
theorem mv_in : ∀ m, mv T v m = -1 ∨ ∃ s, s < m ∧ mv T v m = nI s
  | 0 => Or.inl rfl
  | s + 1 => by
    by_cases z : ¬ T.1 95 s = 0 ∧ T.1 90 s = v ∧ (T.1 73 47 = 0 ∨ T.1 91 s = 5 ∨ T.1 91 s = 4)
    · right
      refine ⟨s, by omega, ?_⟩
      show (if _ then _ else _) = _
      rw [if_pos z]
    · have e : mv T v (s + 1) = mv T v s := by
        show (if _ then _ else _) = _
        rw [if_neg z]
      rw [e]
      rcases mv_in s with h | ⟨u, h1, h2⟩
      · exact Or.inl h
      · exact Or.inr ⟨u, by omega, h2⟩
theorem wm_pile (h : T.1 73 43 = nI m) (hm : m < 4200) : zMv l Gr (zc n w) 168 M_Mo_pile d [.ref 105, .int r, .int p, .int pb] T (fun T' => T' = mPl T m r p pb) := by
  refine e_Mo_pile (b_Mo_pile_0 (by rw [h]; exact vp_in_nI hm (by omega)) ⟨rfl, ?_⟩)
  rw [h, nI_clamp (by omega), nI_1]
  rfl
theorem wm_ref (hs : s < 2500) (hj : j < 12000) : zMv l Gr (zc n w) 168 M_Mo_refer d [.ref 105, .int (nI j), .int (nI s)] T (fun T' => T' = mRf T j s) := by
  refine e_Mo_refer (b_Mo_refer_0 (vp_in_nI hs (by omega)) (vp_in_nI hj (by omega)) ⟨rfl, ?_⟩)
  rw [nI_clamp (by omega), nI_clamp (by omega)]
  rfl
theorem wm_must (hg : ip_gk (lg_tbl, vwCl, Gr)) (h : T.1 73 43 = nI (m + 1)) (hm : m < 4200) : zMv l Gr (zc n w) 168 M_Mo_must (d + 1) [.ref 105, .int r] T (fun T' => T' = mMu T m r) := by
  have e : T.1 73 43 - 1 = nI m := by rw [h]; exact nI_pred m
  have hin : vp_in (T.1 73 43 - 1) 4200 := by rw [e]; exact vp_in_nI hm (by omega)
  refine e_Mo_must (b_Mo_must_0 (fun z => b_Mo_must_38 ⟨rfl, ?_⟩) (fun z => b_Mo_must_7 hin (fun z2 => b_Mo_must_38 ⟨rfl, ?_⟩) (fun z2 => b_Mo_must_22 hg hin wm_fl (fun A eA => b_Mo_must_38 ⟨rfl, ?_⟩))))
  · unfold mMu; rw [if_neg (fun q => z q.1)]
  · rw [e, nI_clamp (by omega)] at z2
    unfold mMu; rw [if_neg (fun q => q.2 z2)]
  · rw [e, nI_clamp (by omega)] at z2 eA
    rw [eA, mT_0 z]
    unfold mMu; rw [if_pos ⟨z, z2⟩]
theorem wm_mpub (hg : ip_gk (lg_tbl, vwCl, Gr)) (h : T.1 73 43 = nI (m + 1)) (hm : m < 4200) : zMv l Gr (zc n w) 168 M_Mo_mustPublic (d + 1) [.ref 105] T (fun T' => T' = mPb T m) := by
  have e : T.1 73 43 - 1 = nI m := by rw [h]; exact nI_pred m
  have hin : vp_in (T.1 73 43 - 1) 4200 := by rw [e]; exact vp_in_nI hm (by omega)
  refine e_Mo_mustPublic (b_Mo_mustPublic_0 (fun z => b_Mo_mustPublic_38 ⟨rfl, ?_⟩) (fun z => b_Mo_mustPublic_7 hin (fun z2 => b_Mo_mustPublic_38 ⟨rfl, ?_⟩) (fun z2 => b_Mo_mustPublic_21 hg hin wm_fl (fun A eA => b_Mo_mustPublic_38 ⟨rfl, ?_⟩))))
  · unfold mPb; rw [if_neg (fun q => z q.1)]
  · rw [e, nI_clamp (by omega)] at z2
    unfold mPb; rw [if_neg (fun q => z2 q.2)]
  · rw [e, nI_clamp (by omega)] at z2 eA
    rw [eA, mT_0 z]
    unfold mPb; rw [if_pos ⟨z, z2⟩]
theorem wm_used (hg : ip_gk (lg_tbl, vwCl, Gr)) (h34 : T.1 73 34 = nI M) (hM : M ≤ 2500) (hj : j < 12000) : zMi l Gr (zc n w) 168 M_Mo_used (d + 1) [.ref 105, .int (nI j)] T (fun x T' => x = mv T (T.1 79 j) M ∧ T' = if mv T (T.1 79 j) M = -1 then mT T 4 (T.1 81 j) else T) := by
  have hin : vp_in (nI j) 12000 := vp_in_nI hj (by omega)
  refine e_Mo_used (b_Mo_used_0 hg hin (wm_vis h34 hM) (fun x A hA => ?_))
  rw [hA.1, hA.2, nI_clamp (by omega)]
  refine b_Mo_used_10 (fun z => b_Mo_used_27 ⟨_, rfl, rfl, ?_⟩) (fun z => b_Mo_used_16 hg hin wm_fl (fun A eA => b_Mo_used_27 ⟨_, rfl, rfl, ?_⟩))
  · rw [if_neg z]
  · rw [eA, if_pos z, nI_clamp (by omega)]
theorem wm_comes (hg : ip_gk (lg_tbl, vwCl, Gr)) (h34 : T.1 73 34 = nI M) (hM : M ≤ 2500) (hj : j < 12000) : zMv l Gr (zc n w) 168 M_Mo_comes (d + 1) [.ref 105, .int (nI j)] T (fun T' => T' = if mv T (T.1 79 j) M = -1 then T else mT T 4 (T.1 81 j)) := by
  have hin : vp_in (nI j) 12000 := vp_in_nI hj (by omega)
  refine e_Mo_comes (b_Mo_comes_0 hg hin (wm_vis h34 hM) (fun x A hA => ?_))
  rw [hA.1, hA.2, nI_clamp (by omega)]
  refine b_Mo_comes_10 (fun z => b_Mo_comes_25 ⟨rfl, ?_⟩) (fun z => b_Mo_comes_14 hg hin wm_fl (fun A eA => b_Mo_comes_25 ⟨rfl, ?_⟩))
  · rw [if_pos z]
  · rw [eA, if_neg z, nI_clamp (by omega)]
theorem wm_sym {k z a : Int32} (h34 : T.1 73 34 = nI m) (hm : m < 2500) : zMi l Gr (zc n w) 168 M_Mo_symbol d [.ref 105, .int v, .int k, .int r, .int z, .int a] T (fun x T' => x = nI m ∧ T' = mSy T m v k r z a) := by
  refine e_Mo_symbol (b_Mo_symbol_0 (by rw [h34]; exact vp_in_nI hm (by omega)) ⟨_, rfl, ?_, ?_⟩)
  · rw [h34, nI_1]; exact nI_pred m
  · rw [h34, nI_clamp (by omega), nI_1]
    rfl
/-- one turn of the reference's SORTS -/
theorem rg_O (hk : KMf T X) (hg : ip_gk (lg_tbl, vwCl, Gr)) (h : RIx T j mz) (h1 : ¬ 20 ≤ T.1 78 j) (hc : zMv l Gr (zc n w) 168 M_Mo_operandSort (d + 3) [.ref 105, .int (nI j)] T (fun T' => T' = X)) : RG l Gr n w d T j X (j + 1) := ⟨hk, fun Q k => by
  obtain ⟨h13, hz, h7, hj⟩ := h
  refine b_Mo_sorts_37 (fun z => by rw [h13] at z; exact absurd z (nI_ge (by omega) (by omega))) (fun _ => b_Mo_sorts_45 (fun z => absurd h7 z) (fun _ => b_Mo_sorts_52 (vp_in_nI (by omega) (by omega)) (fun z => ?_) (fun z => b_Mo_sorts_63 hg hc (fun A eA => b_Mo_sorts_68 (b_Mo_sorts_76 ?_)))))
  · rw [nI_clamp (by omega)] at z; exact absurd z h1
  · rw [eA, show nI j + Int32.ofInt 1 = nI (j + 1) from nI_1 j]
    exact k⟩
theorem rg_S (hk : KMf T X) (hg : ip_gk (lg_tbl, vwCl, Gr)) (h : RIx T j mz) (h1 : 20 ≤ T.1 78 j) (hc : zMv l Gr (zc n w) 168 M_Mo_statementSort (d + 3) [.ref 105, .int (nI j)] T (fun T' => T' = X)) : RG l Gr n w d T j X (j + 1) := ⟨hk, fun Q k => by
  obtain ⟨h13, hz, h7, hj⟩ := h
  refine b_Mo_sorts_37 (fun z => by rw [h13] at z; exact absurd z (nI_ge (by omega) (by omega))) (fun _ => b_Mo_sorts_45 (fun z => absurd h7 z) (fun _ => b_Mo_sorts_52 (vp_in_nI (by omega) (by omega)) (fun z => b_Mo_sorts_71 hg hc (fun A eA => b_Mo_sorts_76 ?_)) (fun z => ?_)))
  · rw [eA, show nI j + Int32.ofInt 1 = nI (j + 1) from nI_1 j]
    exact k
  · rw [nI_clamp (by omega)] at z; exact absurd h1 z⟩
end MK8
