/-! how high statements lie: the conditions of the ifs around -/
def E3z (S : zS) (i i' : Nat) : Prop := ∀ x, i ≤ x → x < i' → e3 S x = 0
/-- at x there are u ifs, s statements around and t EXPRs more wait -/
def HU (S : zS) (i0 x u s : Nat) (t : Int) : Prop := i0 ≤ x ∧ hs (ef2 S) i0 x = (u : Int) + t ∧ hs (e3 S) i0 x = (s : Int)
section HUS
variable {l : Launch} {Gr : zG} {n w : Nat} {d : Nat} {Av : Nat → Nat → Prop} {S T A B0 : zS} {i0 i0' i i' k x u s D N M r j j' ia ib ja jb hc st mf p p' : Nat} {t e2 : Int} {o : Int32}
theorem E3z_nil : E3z S i i := fun x q1 q2 => absurd q2 (by omega)
theorem E3z_app (A : E3z S i k) (B : E3z S k i') : E3z S i i' := fun x q1 q2 => by
  by_cases z : x < k
  · exact A x q1 z
  · exact B x (by omega) q2
theorem E3z_1 (ho : S.1 4 i = o) (h1 : ¬ (o = 14 ∨ o = 19) := by decide) (h2 : ¬ (o = 16 ∨ o = 20) := by decide) : E3z S i (i + 1) := fun x q1 q2 => by
  rw [show x = i by omega]
  unfold e3
  rw [ho, if_neg h1, if_neg h2]
theorem E3z_hs (h : E3z S i i') : ∀ x, i ≤ x → x ≤ i' → hs (e3 S) i x = 0
  | 0, _, _ => rfl
  | x + 1, q1, q2 => by
    by_cases z : i ≤ x
    · rw [hs_s z, E3z_hs h x z (by omega), h x z (by omega)]
      rfl
    · exact hs_le _ (by omega)
theorem aA_0 {G : Nat → Nat → Nat → Nat → Nat → Prop} (hG : ∀ p i i' j j', G p i i' j j' → E3z S i i') {d : Nat} : ∀ m i i' j j', aA S T G d m i i' j j' → E3z S i i'
  | 0, i, i', j, j', h => by rw [h.1]; exact E3z_nil
  | m + 1, i, i', j, j', h => by
    obtain ⟨i1, j1, r, i2, j2, h1, -, h2, e1, e2, f1, f2, f3⟩ := h
    rw [e1]
    exact E3z_app (E3z_app (aA_0 hG m _ _ _ _ h1) (hG _ _ _ _ _ h2)) (E3z_1 f2)
theorem aE_0 : ∀ n r i i' j j', aE w D Av S T n r i i' j j' → E3z S i i'
  | 0, _, _, _, _, _, h => h.elim
  | n + 1, r, i, i', j, j', h => by
    have ih := aE_0 n
    rcases h with h | h | h | h | h | h | h | h | h | h | h
    · obtain ⟨v, hv, e0, e1, e2, f1, -⟩ := h
      rw [e1]
      exact E3z_1 f1
    · obtain ⟨e0, e1, e2, f1, -⟩ := h
      rw [e1]
      exact E3z_1 f1
    · obtain ⟨d, k, a, h1, h2, e1, e2, f1, -⟩ := h
      rw [e1]
      exact E3z_1 f1
    · obtain ⟨d, k, z, a, pb, q, i1, j1, h1, hz, hp, g, e1, e2, f1, f2, f3, f4, f5, f6, f7, -⟩ := h
      rw [e1]
      exact E3z_app (E3z_app (E3z_app (E3z_1 f1) (ih _ _ _ _ _ g)) (E3z_1 f4)) (E3z_1 f7)
    · obtain ⟨d, z, a, m, i1, j1, h1, g, hd, h15, e1, e2, f1, f2, f3, -⟩ := h
      rw [e1]
      exact E3z_app (E3z_app (E3z_1 f1) (aA_0 ih m _ _ _ _ g)) (E3z_1 f3)
    · obtain ⟨i1, j1, g, e0, e1, e2, f1, f2, -⟩ := h
      rw [e1]
      exact E3z_app (E3z_app (E3z_1 f1) (ih _ _ _ _ _ g)) (E3z_1 f2)
    · obtain ⟨q, i1, j1, i2, j2, g, g2, e0, e1, e2, f1, f2, f3, -⟩ := h
      rw [e1]
      exact E3z_app (E3z_app (E3z_app (E3z_app (E3z_1 f1) (ih _ _ _ _ _ g)) (E3z_1 f2)) (ih _ _ _ _ _ g2)) (E3z_1 f3)
    · obtain ⟨i1, j1, g, e1, e2, f1, f2⟩ := h
      rw [e1]
      rcases f2 with ⟨q, -⟩ | ⟨q, -⟩ | ⟨q, -⟩ <;> exact E3z_app (ih _ _ _ _ _ g) (E3z_1 q)
    · obtain ⟨q, i1, j1, i2, j2, o, r1, g, g2, o1, o2, h1, h2, h3, h4, e1, e2, f1, -⟩ := h
      have ne : ∀ y : Nat, y < 38 → ¬ nI (37 + o) = nI y := fun y hy q => absurd ((nI_eq (a := 37 + o) (b := y) (by omega) (by omega)).mp q) (by omega)
      rw [e1]
      exact E3z_app (E3z_app (ih _ _ _ _ _ g) (ih _ _ _ _ _ g2)) (E3z_1 f1 (fun y => y.elim (ne 14 (by omega)) (ne 19 (by omega))) (fun y => y.elim (ne 16 (by omega)) (ne 20 (by omega))))
    · obtain ⟨i1, j1, i2, j2, i3, j3, g, g2, g3, e1, e2, f1, -⟩ := h
      rw [e1]
      exact E3z_app (E3z_app (E3z_app (ih _ _ _ _ _ g) (ih _ _ _ _ _ g2)) (ih _ _ _ _ _ g3)) (E3z_1 f1)
    · obtain ⟨j1, g, e1, f1, -⟩ := h
      exact E3z_app (E3z_1 f1) (ih _ _ _ _ _ g)
theorem HU_1 (h : HU S i0 x u s t) (ho : S.1 4 x = o) (g2 : E2 o.toInt = e2) (h30 : ¬ o = 30 := by decide) (h14 : ¬ (o = 14 ∨ o = 19) := by decide) (h16 : ¬ (o = 16 ∨ o = 20) := by decide) : HU S i0 (x + 1) u s (t + e2) := by
  obtain ⟨h1, h2, h3⟩ := h
  refine ⟨by omega, by rw [hs_n h1 (ef_o ho h30 g2), h2]; omega, ?_⟩
  rw [hs_s h1, h3]
  unfold e3
  rw [ho, if_neg h14, if_neg h16]
  omega
theorem HU_x (hN : N ≤ 4000) (hD : D ≤ 800) (h : HU S i0 ia u s t) (hx : aX w D Av r S T ia ib ja jb) (hb : ib ≤ N) : HU S i0 ib u s (t + 1) := by
  have bd := aX_bnd hx
  obtain ⟨nn, hx⟩ := hx
  obtain ⟨h1, h2, h3⟩ := h
  refine ⟨by omega, ?_, ?_⟩
  · rw [hs_add h1 ib (by omega), h2, hs1 hN hD nn _ _ _ _ _ hb hx]
    omega
  · rw [hs_add h1 ib (by omega), h3, E3z_hs (aE_0 nn _ _ _ _ _ hx) ib (by omega) (Nat.le_refl _)]
    omega
theorem HU_e {t' : Int} (h : HU S i0 x u s t) (e : t = t') : HU S i0 x u s t' := by rw [← e]; exact h
theorem HU_14 (h : HU S i0 x u s 1) (ho : S.1 4 x = 14) : HU S i0 (x + 1) (u + 1) (s + 1) 0 := by
  obtain ⟨h1, h2, h3⟩ := h
  refine ⟨by omega, by rw [hs_n h1 (ef_o ho (by decide) (by decide : E2 (14 : Int32).toInt = 0)), h2]; omega, ?_⟩
  rw [hs_s h1, h3]
  unfold e3
  rw [if_pos (Or.inl ho)]
  omega
theorem HU_19 (h : HU S i0 x u s 2) (ho : S.1 4 x = 19) : HU S i0 (x + 1) u (s + 1) 0 := by
  obtain ⟨h1, h2, h3⟩ := h
  refine ⟨by omega, by rw [hs_n h1 (ef_o ho (by decide) (by decide : E2 (19 : Int32).toInt = -2)), h2]; omega, ?_⟩
  rw [hs_s h1, h3]
  unfold e3
  rw [if_pos (Or.inr ho)]
  omega
theorem HU_16 (h : HU S i0 x (u + 1) (s + 1) 0) (ho : S.1 4 x = 16) : HU S i0 (x + 1) u s 0 := by
  obtain ⟨h1, h2, h3⟩ := h
  refine ⟨by omega, by rw [hs_n h1 (ef_o ho (by decide) (by decide : E2 (16 : Int32).toInt = -1)), h2]; omega, ?_⟩
  rw [hs_s h1, h3]
  unfold e3
  rw [if_neg (by rw [ho]; decide), if_pos (Or.inl ho)]
  omega
theorem HU_20 (h : HU S i0 x u (s + 1) 0) (ho : S.1 4 x = 20) : HU S i0 (x + 1) u s 0 := by
  obtain ⟨h1, h2, h3⟩ := h
  refine ⟨by omega, by rw [hs_n h1 (ef_o ho (by decide) (by decide : E2 (20 : Int32).toInt = 0)), h2]; omega, ?_⟩
  rw [hs_s h1, h3]
  unfold e3
  rw [if_neg (by rw [ho]; decide), if_pos (Or.inr ho)]
  omega
/-- what holds of the ITEM that is built -/
def BCX (D N M mf : Nat) (S T : zS) (i0 i0' p p' : Nat) : Prop := CTX S T N M ∧ D ≤ 800 ∧ (∀ x, x ≤ N → ur S x ≤ 30) ∧ mf ≤ 285 ∧ (∀ x, i0 ≤ x → x ≤ i0' → 2 * hs (ef2 S) i0 x ≤ (p' : Int) - p) ∧ p' ≤ 4000 ∧ p ≤ p' ∧ i0' ≤ N ∧ ∀ x, i0 ≤ x → x < i0' → S.1 4 x = 1 → hs (e3 S) i0 x ≤ 30
/-- an EXPR of a statement -/
theorem ex_st (hg : ip_gk (lg_tbl, vwCl, Gr)) (ho : ip_old (lg_tbl, vwCl, Gr)) (hw1 : 1 ≤ w) (hw : w ≤ 32) (bx : BCX D N M mf S T i0 i0' p p') (av : AvO S Av 0) (dn : DEn w D N M S T mf Av p) {tt : Nat} (hu : HU S i0 ia u s (tt : Int)) (hu30 : u ≤ 30) (an : aX w D Av r S T ia ib ja jb) (hib : ib ≤ i0') (hjb : jb ≤ M) (hhc : hc ≤ 257 * u + tt) (h0 : XS w Av S T 0 0 0 0 0 ia hc tt st A B0) : TRx l Gr n w d Av S T 0 0 0 0 0 r ia ib ja jb hc tt st A := by
  obtain ⟨cx, hD, nu, hmf, hx, hp', hpp, hiN, -⟩ := bx
  obtain ⟨nn, an⟩ := an
  refine lx_all hg ho hw1 hw cx hD nu mf nn Av 0 0 0 0 0 r ia ib ja jb hc tt st (u + tt) ((p' - p) / 2) p A B0 an av dn (by omega) (by omega) (by omega) (by omega) (fun x q1 q2 => ?_) (by omega) hjb h0
  have := hx x (by have := hu.1; omega) (by omega)
  rw [hs_add hu.1 x q1, hu.2.1] at this
  omega
end HUS
