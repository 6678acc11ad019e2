/-! for on both sides: the instructions -/
theorem cm_le {a b : Nat} (ha : a < 2 ^ 62) (hb : b < 2 ^ 62) : lg_cmp (lN a) (lN b) ≤ 0 ↔ a ≤ b := by
  have h1 : lN b < lN a ↔ b < a := i64_lt (by omega) (by omega)
  unfold lg_cmp
  by_cases z : lN a > lN b
  · rw [if_pos z]
    exact ⟨fun q => absurd q (by decide), fun q => absurd (h1.mp z) (by omega)⟩
  · rw [if_neg z]
    have : ¬ b < a := fun q => z (h1.mpr q)
    refine ⟨fun _ => by omega, fun _ => ?_⟩
    split <;> decide
theorem cm_lt {a b : Nat} (ha : a < 2 ^ 62) (hb : b < 2 ^ 62) : lg_cmp (lN a) (lN b) < 0 ↔ a < b := by
  rw [lg_cmp_lt]
  exact i64_lt (by omega) (by omega)
theorem cm_ge {a b : Nat} (ha : a < 2 ^ 62) (hb : b < 2 ^ 62) : 0 ≤ lg_cmp (lN a) (lN b) ↔ b ≤ a := by
  rw [← Int32.not_lt, cm_lt ha hb]
  omega
section FOI
variable {l : Launch} {Gr : zG} {n w : Nat} {d : Nat} {S A A0 T B B0 : zS} {x1 : Int32} {X Y : Nat → Int32} {Q : Option Value → zS → Prop} {a b m q i j e r v z k t h p ie je v1 v2 js : Nat}
theorem w_st19 (hg : ip_gk (lg_tbl, vwCl, Gr)) (hw : w ≤ 32) (hj : j < 4000) (he : e < 800) (h5 : A.1 5 j = nI e) (h6 : A.1 6 j = nI p) (h7 : A.1 7 j = nI ie) (h8 : A.1 45 8 = nI (b + w + w)) (hb : b + w + w ≤ 9682 * w) (hX : ∀ x, x < w → A.1 57 (b + x) = X x) (hY : ∀ x, x < w → A.1 57 (b + w + x) = Y x) (e1 : v1 = nvb (xbo X) w 0) (e2 : v2 = nvb (xbo Y) w 0) : zMv l Gr (zc n w) 168 M_Builder_buildStatement (d + 7) [.ref 77, .int (nI j), .int 19] A (fun A' => (v1 ≤ v2 ∧ v2 - v1 < 256 → A' = zj (zj (zi A 45 8 (nI b)) 48 e (lN v1)) 49 e (lN v2)) ∧ (v2 < v1 → A' = zi (zj (zj (zi A 45 8 (nI b)) 48 e (lN v1)) 49 e (lN v2)) 45 16 (nI ie)) ∧ (v1 ≤ v2 ∧ 256 ≤ v2 - v1 → A' = kT (zj (zj (zi A 45 8 (nI b)) 48 e (lN v1)) 49 e (lN v2)) 7 (nI p))) := by
  have cj : ((nI j : Int32)).toNatClampNeg = j := nI_clamp (by omega)
  have ce : ((nI e : Int32)).toNatClampNeg = e := nI_clamp (by omega)
  have b1 : v1 < 2 ^ 62 := by rw [e1]; exact nvb_62 hw
  have b2 : v2 < 2 ^ 62 := by rw [e2]; exact nvb_62 hw
  have e8 : A.1 45 8 - 2 * nI w = nI b := by rw [h8, nI_mul2, show b + w + w = b + 2 * w by omega, nI_subb]
  refine e_Builder_buildStatement (b_Builder_buildStatement_0 (vp_in_nI hj (by omega)) (fun y => absurd y (by decide)) (fun y => absurd y (by decide)) (fun y => absurd y (by decide)) (fun y => absurd y (by decide)) (fun y => absurd y (by decide)) (fun y => absurd y (by decide)) (fun y => absurd y (by decide)) (fun y => absurd y (by decide)) (fun _ _ _ _ _ _ _ _ => b_Builder_buildStatement_261 hg (R := fun A' => (v1 ≤ v2 ∧ v2 - v1 < 256 → A' = zj (zj (zi A 45 8 (nI b)) 48 e (lN v1)) 49 e (lN v2)) ∧ (v2 < v1 → A' = zi (zj (zj (zi A 45 8 (nI b)) 48 e (lN v1)) 49 e (lN v2)) 45 16 (nI ie)) ∧ (v1 ≤ v2 ∧ 256 ≤ v2 - v1 → A' = kT (zj (zj (zi A 45 8 (nI b)) 48 e (lN v1)) 49 e (lN v2)) 7 (nI p))) (e_Builder_buildFlow (b_Builder_buildFlow_0 (fun y => absurd y (by decide)) (fun y => absurd y (by decide)) (fun y => absurd y (by decide)) (fun _ => b_Builder_buildFlow_97 hg (R := fun A' => (v1 ≤ v2 ∧ v2 - v1 < 256 → A' = zj (zj (zi A 45 8 (nI b)) 48 e (lN v1)) 49 e (lN v2)) ∧ (v2 < v1 → A' = zi (zj (zj (zi A 45 8 (nI b)) 48 e (lN v1)) 49 e (lN v2)) 45 16 (nI ie)) ∧ (v1 ≤ v2 ∧ 256 ≤ v2 - v1 → A' = kT (zj (zj (zi A 45 8 (nI b)) 48 e (lN v1)) 49 e (lN v2)) 7 (nI p))) (e_Builder_beginLoop ?_) (fun A' k => b_Builder_buildFlow_102 (b_Builder_buildFlow_113 ⟨rfl, k⟩))) (fun y => absurd y (by decide)) (fun _ _ _ y => absurd rfl y))) (fun A' k => b_Builder_buildStatement_267 ⟨rfl, k⟩)))
  refine b_Builder_beginLoop_0 (vp_in_nI hj (by omega)) (fun y => absurd y (by rw [cj, h5]; exact nI_pos (by omega))) (fun _ => ?_)
  rw [cj, h5]
  refine b_Builder_beginLoop_14 (fun _ => b_Builder_beginLoop_22 hg (R := fun v A' => v = lN v1 ∧ A' = zi A 45 8 (nI b)) (by rw [e8, e1]; exact w_numb hw (by omega) (fun x hx => by rw [zi_c (by decide)]; exact hX x hx)) (fun v A1 k1 => ?_)) (fun y => absurd (nI_lt (b := 800) he (by omega)) y)
  rw [k1.1, k1.2]
  refine b_Builder_beginLoop_57 hg (R := fun v A' => v = lN v2 ∧ A' = zj (zi A 45 8 (nI b)) 48 e (lN v1)) (vp_in_nI he (by omega)) (by
    rw [ce, zi_get, if_pos ⟨rfl, rfl⟩, nI_add, e2]
    exact w_numb hw (by omega) (fun x hx => by
      show (zi A 45 8 (nI b)).1 57 (b + w + x) = Y x
      rw [zi_c (by decide)]
      exact hY x hx)) (fun v A2 k2 => ?_)
  rw [k2.1, k2.2]
  have l48 : (zj (zi A 45 8 (nI b)) 48 e (lN v1)).2 48 e = lN v1 := zj_v
  have l49 : (zj (zj (zi A 45 8 (nI b)) 48 e (lN v1)) 49 e (lN v2)).2 49 e = lN v2 := zj_v
  have l48' : (zj (zj (zi A 45 8 (nI b)) 48 e (lN v1)) 49 e (lN v2)).2 48 e = lN v1 := by
    rw [zj_c (by decide)]
    exact zj_v
  refine b_Builder_beginLoop_83 (vp_in_nI he (by omega)) (vp_in_nI he (by omega)) (fun y => ?_) (fun y => ?_)
  · rw [ce, l48, l49, cm_le b1 b2] at y
    rw [ce]
    refine b_Builder_beginLoop_116 (vp_in_nI he (by omega)) (fun q => b_Builder_beginLoop_154 ⟨rfl, fun _ => rfl, fun q2 => absurd q2 (by omega), fun q2 => ?_⟩) (fun q => b_Builder_beginLoop_136 hg (vp_in_nI hj (by omega)) w_tl (fun A3 k3 => b_Builder_beginLoop_154 ⟨rfl, fun q2 => ?_, fun q2 => absurd q2 (by omega), fun _ => ?_⟩))
    · rw [ce, l48', l49, lN_sub y, show (256 : Int64) = lN 256 from rfl, cm_lt (by omega) (by omega)] at q
      omega
    · rw [ce, l48', l49, lN_sub y, show (256 : Int64) = lN 256 from rfl, cm_lt (by omega) (by omega)] at q
      omega
    · rw [k3, cj]
      show kT (zj (zj (zi A 45 8 (nI b)) 48 e (lN v1)) 49 e (lN v2)) 7 ((zi A 45 8 (nI b)).1 6 j) = _
      rw [zi_c (by decide), h6]
  · rw [ce, l48, l49, cm_le b1 b2] at y
    rw [ce]
    refine b_Builder_beginLoop_100 (vp_in_nI hj (by omega)) (b_Builder_beginLoop_154 ⟨rfl, fun q => absurd q.1 y, fun _ => ?_, fun q => absurd q.1 y⟩)
    rw [cj]
    show zi _ 45 16 ((zi A 45 8 (nI b)).1 7 j) = _
    rw [zi_c (by decide), h7]
theorem w_st20 (hg : ip_gk (lg_tbl, vwCl, Gr)) (hj : j < 4000) (he : e < 800) (h5 : A.1 5 j = nI e) (h7 : A.1 7 j = nI ie) (h48 : A.2 48 e = lN v1) (h49 : A.2 49 e = lN v2) (b1 : v1 < 2 ^ 60) (b2 : v2 < 2 ^ 60) : zMv l Gr (zc n w) 168 M_Builder_buildStatement (d + 7) [.ref 77, .int (nI j), .int 20] A (fun A' => (v1 < v2 → A' = zi (zj A 48 e (lN (v1 + 1))) 45 16 (nI ie)) ∧ (v2 ≤ v1 → A' = A)) := by
  have cj : ((nI j : Int32)).toNatClampNeg = j := nI_clamp (by omega)
  have ce : ((nI e : Int32)).toNatClampNeg = e := nI_clamp (by omega)
  refine e_Builder_buildStatement (b_Builder_buildStatement_0 (vp_in_nI hj (by omega)) (fun y => absurd y (by decide)) (fun y => absurd y (by decide)) (fun y => absurd y (by decide)) (fun y => absurd y (by decide)) (fun y => absurd y (by decide)) (fun y => absurd y (by decide)) (fun y => absurd y (by decide)) (fun y => absurd y (by decide)) (fun _ _ _ _ _ _ _ _ => b_Builder_buildStatement_261 hg (R := fun A' => (v1 < v2 → A' = zi (zj A 48 e (lN (v1 + 1))) 45 16 (nI ie)) ∧ (v2 ≤ v1 → A' = A)) (e_Builder_buildFlow (b_Builder_buildFlow_0 (fun y => absurd y (by decide)) (fun y => absurd y (by decide)) (fun y => absurd y (by decide)) (fun y => absurd y (by decide)) (fun _ => b_Builder_buildFlow_105 hg (R := fun A' => (v1 < v2 → A' = zi (zj A 48 e (lN (v1 + 1))) 45 16 (nI ie)) ∧ (v2 ≤ v1 → A' = A)) (e_Builder_takeNextTurn ?_) (fun A' k => b_Builder_buildFlow_110 (b_Builder_buildFlow_113 ⟨rfl, k⟩))) (fun _ _ _ _ y => absurd rfl y))) (fun A' k => b_Builder_buildStatement_267 ⟨rfl, k⟩)))
  refine b_Builder_takeNextTurn_0 (vp_in_nI hj (by omega)) (fun y => absurd y (by rw [cj, h5]; exact nI_pos (by omega))) (fun _ => ?_)
  rw [cj, h5]
  refine b_Builder_takeNextTurn_14 (fun y => absurd y (nI_ge (a := e) (b := 800) he (by omega))) (fun _ => b_Builder_takeNextTurn_21 (vp_in_nI he (by omega)) (fun y => b_Builder_takeNextTurn_60 ⟨rfl, fun q => ?_, fun _ => rfl⟩) (fun y => b_Builder_takeNextTurn_37 (vp_in_nI he (by omega)) (vp_in_nI hj (by omega)) (b_Builder_takeNextTurn_60 ⟨rfl, fun _ => ?_, fun q => ?_⟩)))
  · rw [ce, h48, h49, cm_ge (by omega) (by omega)] at y
    omega
  · rw [ce, cj, h48, lN_1]
    show zi (zj A 48 e (lN (v1 + 1))) 45 16 (A.1 7 j) = _
    rw [h7]
  · rw [ce, h48, h49, cm_ge (by omega) (by omega)] at y
    omega
end FOI
