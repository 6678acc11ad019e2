/-! the class's SORTS: each step as a function of the store -/
/-- NAMEs and text while SORTS runs -/
def KT (b : Nat → Int32) (t D : Nat) (S : zS) : Prop := S.1 2 = b ∧ t ≤ 4000 ∧ S.1 8 1 = nI t ∧ NS b t D S ∧ D ≤ 800
def KV (S : zS) (m f D : Nat) : Prop := S.1 8 11 = nI m ∧ m ≤ 800 ∧ S.1 8 12 = nI f ∧ f ≤ 800 ∧ ∀ v, v < m → ∃ d, d < D ∧ S.1 16 v = nI d
def kf (b : Nat → Int32) (t : Nat) (S : zS) (p : Nat) : Nat → Int32
  | 0 => -1
  | v + 1 => if (S.1 8 12 ≤ nI v ∨ S.1 11 (S.1 16 v).toNatClampNeg = 4) ∧ wW b t (S.1 9 (S.1 16 v).toNatClampNeg).toNatClampNeg = wW b t p then S.1 16 v else kf b t S p v
def kFind (b : Nat → Int32) (t : Nat) (S : zS) (p : Nat) : Int32 := kf b t S p (S.1 8 11).toNatClampNeg
section SK0
variable {l : Launch} {Gr : zG} {n w : Nat} {d : Nat} {b : Nat → Int32} {t p m f D : Nat} {S S' : zS}
theorem nI_m1 (v : Nat) : nI (v + 1) + Int32.ofInt (-1) = nI v := by
  rw [← nI_1, Int32.add_assoc, show (1 : Int32) + Int32.ofInt (-1) = 0 from by decide, Int32.add_zero]
theorem w_isSame {dd s : Nat} (hb : S.1 2 = b) (ht : t ≤ 4000) (hd : dd < 800) (hs : s ≤ t) (hp : p ≤ t) (h9 : S.1 9 dd = nI s) (h10 : S.1 10 dd = nI (re pn b t s)) : zMi l Gr (zc n w) 168 M_Names_isSame d [.ref 40, .int (nI dd), .int (nI p), .int (nI (re pn b t p))] S (fun v S' => S' = S ∧ v = if wW b t s = wW b t p then 1 else 0) := by
  have a1 : p ≤ re pn b t p := re_ge (by omega)
  have a2 : re pn b t p ≤ t := re_le (by omega)
  have c1 : s ≤ re pn b t s := re_ge (by omega)
  have c2 : re pn b t s ≤ t := re_le (by omega)
  have hin : vp_in (nI dd) 800 := vp_in_nI hd (by omega)
  have loop : re pn b t s - s = re pn b t p - p → ∀ (u r : Nat), r + u = re pn b t p - p → (∀ k, k < r → b (s + k) = b (p + k)) → zW l Gr (zc n w) 168 M_Names_isSame d 24 [some (.ref 40), some (.int (nI dd)), some (.int (nI p)), some (.int (nI (re pn b t p))), some (.int (nI (p + r)))] [] S (fun v S' => ∃ x, v = some (.int x) ∧ (x = 0 ∨ x = 1) ∧ S' = S ∧ x = if wW b t s = wW b t p then 1 else 0) := fun hl u => by
    induction u with
    | zero =>
      intro r hr hk
      refine b_Names_isSame_24 (fun _ => b_Names_isSame_64 ⟨_, rfl, Or.inr rfl, rfl, ?_⟩) (fun z => absurd (nI_le (by omega) (by omega)) z)
      rw [if_pos (wd_eq.mpr ⟨hl, fun k hk' => hk k (by omega)⟩)]
    | succ u ih =>
      intro r hr hk
      have e1 : nI s + nI (p + r) - nI p = nI (s + r) := by
        rw [nI_add, pk_sub (by omega), show s + (p + r) - p = s + r by omega]
      refine b_Names_isSame_24 (fun z => absurd z (nI_ge (by omega) (by omega))) (fun _ => b_Names_isSame_30 (vp_in_nI (by omega) (by omega)) hin (by rw [nI_clamp (by omega), h9, e1]; exact vp_in_nI (by omega) (by omega)) (fun z => b_Names_isSame_58 ?_) (fun z => b_Names_isSame_56 ⟨_, rfl, Or.inl rfl, rfl, ?_⟩))
      · rw [nI_clamp (by omega), nI_clamp (by omega), h9, e1, nI_clamp (by omega), hb] at z
        rw [show nI (p + r) + Int32.ofInt 1 = nI (p + (r + 1)) from nI_1 _]
        refine ih (r + 1) (by omega) (fun k hk' => ?_)
        by_cases y : k = r
        · subst y; exact z.symm
        · exact hk k (by omega)
      · rw [nI_clamp (by omega), nI_clamp (by omega), h9, e1, nI_clamp (by omega), hb] at z
        rw [if_neg (fun y => z ((wd_eq.mp y).2 r (by omega)).symm)]
  refine e_Names_isSame (b_Names_isSame_0 hin (fun z => b_Names_isSame_21 ?_) (fun z => b_Names_isSame_19 ⟨_, rfl, Or.inl rfl, rfl, ?_⟩))
  · rw [nI_clamp (by omega), h9, h10, pk_sub (by omega), pk_sub (by omega)] at z
    exact loop ((nI_eq (by omega) (by omega)).mp z) (re pn b t p - p) 0 (by omega) (fun k hk => absurd hk (Nat.not_lt_zero k))
  · rw [nI_clamp (by omega), h9, h10, pk_sub (by omega), pk_sub (by omega)] at z
    rw [if_neg (fun y => z (by rw [(wd_eq.mp y).1]))]
theorem w_find (hg : ip_gk (lg_tbl, vwCl, Gr)) (hT : KT b t D S) (hV : KV S m f D) (hp : p ≤ t) : zMi l Gr (zc n w) 168 M_Names_find (d + 2) [.ref 40, .int (nI p)] S (fun v S' => S' = S ∧ v = kFind b t S p) := by
  obtain ⟨hb, ht, h81, hN, hD⟩ := hT
  obtain ⟨v11, hm, v12, hf, hv⟩ := hV
  have loop : ∀ (v : Nat) (x : Int32), v ≤ m → (v = 0 → x = -1) → (∀ u, v = u + 1 → x = nI u) → zW l Gr (zc n w) 168 M_Names_find (d + 2) 13 [some (.ref 40), some (.int (nI p)), some (.int (nI (re pn b t p))), some (.int x), none] [] S (fun r S' => ∃ y, r = some (.int y) ∧ S' = S ∧ y = kf b t S p v) := fun v => by
    induction v with
    | zero =>
      intro x _ hx _
      rw [hx rfl]
      exact b_Names_find_13 (fun _ => b_Names_find_64 ⟨_, rfl, rfl, rfl⟩) (fun z => absurd (by decide) z)
    | succ v ih =>
      intro x hvm _ hx
      rw [hx v rfl]
      obtain ⟨dd, hd, e16⟩ := hv v (by omega)
      obtain ⟨s, hs, h9, h10⟩ := hN dd hd
      have ec : (S.1 16 v).toNatClampNeg = dd := by rw [e16]; exact nI_clamp (by omega)
      have es : (S.1 9 dd).toNatClampNeg = s := by rw [h9]; exact nI_clamp (by omega)
      -- on with the next
      have nxt : ¬ ((S.1 8 12 ≤ nI v ∨ S.1 11 (S.1 16 v).toNatClampNeg = 4) ∧ wW b t (S.1 9 (S.1 16 v).toNatClampNeg).toNatClampNeg = wW b t p) → zW l Gr (zc n w) 168 M_Names_find (d + 2) 58 [some (.ref 40), some (.int (nI p)), some (.int (nI (re pn b t p))), some (.int (nI v)), none] [] S (fun r S' => ∃ y, r = some (.int y) ∧ S' = S ∧ y = kf b t S p (v + 1)) := fun hn => by
        refine b_Names_find_58 ?_
        have e : kf b t S p (v + 1) = kf b t S p v := by
          show (if _ then _ else _) = _
          rw [if_neg hn]
        rw [e]
        refine ih _ (by omega) (fun z => ?_) (fun u z => ?_)
        · subst z; decide
        · subst z; exact nI_m1 u
      have cmp : (S.1 8 12 ≤ nI v ∨ S.1 11 (S.1 16 v).toNatClampNeg = 4) → zW l Gr (zc n w) 168 M_Names_find (d + 2) 44 [some (.ref 40), some (.int (nI p)), some (.int (nI (re pn b t p))), some (.int (nI v)), some (.int (nI dd))] [] S (fun r S' => ∃ y, r = some (.int y) ∧ S' = S ∧ y = kf b t S p (v + 1)) := fun hc => by
        refine b_Names_find_44 hg (w_isSame hb ht (by omega) hs hp h9 h10) (fun y A hA => ?_)
        rw [hA.1, hA.2]
        by_cases z : wW b t s = wW b t p
        · rw [if_pos z]
          refine b_Names_find_52 (fun y => absurd y (by decide)) (fun _ => b_Names_find_55 ⟨_, rfl, rfl, ?_⟩)
          show _ = (if _ then _ else _)
          rw [if_pos ⟨hc, by rw [ec, es]; exact z⟩, e16]
        · rw [if_neg z]
          refine b_Names_find_52 (fun _ => nxt (fun y => z ?_)) (fun y => absurd rfl y)
          have := y.2
          rw [ec, es] at this
          exact this
      refine b_Names_find_13 (fun z => absurd z (nI_pos (by omega))) (fun _ => b_Names_find_17 (vp_in_nI (by omega) (by omega)) (fun z => ?_) (fun z => ?_))
      · rw [nI_clamp (by omega), e16]
        exact cmp (Or.inl z)
      · rw [nI_clamp (by omega), e16]
        refine b_Names_find_33 (vp_in_nI (by omega) (by omega)) (fun y => nxt (fun x => ?_)) (fun y => cmp (Or.inr (by rw [e16]; exact y)))
        rcases x.1 with x | x
        · exact z x
        · rw [e16] at x
          exact y x
  refine e_Names_find (b_Names_find_0 hg (w_stopOf (b := b) hg ht hb h81 hp) (fun v A hv => ?_))
  rw [hv.1, hv.2]
  refine b_Names_find_5 ?_
  have e : kFind b t S p = kf b t S p m := by
    unfold kFind
    rw [v11, nI_clamp (by omega)]
  rw [v11, e]
  refine loop m _ (Nat.le_refl _) (fun z => ?_) (fun u z => ?_)
  · subst z; decide
  · subst z; exact nI_pred u
end SK0
