/-! mean()'s statements: if, for, a[i] = -/
section MSU
variable {l : Launch} {Gr : zG} {n w d i h a j NX NY z : Nat} {X : zS} {v : Int64}
theorem mt_if (hi : i < 12000) (hh : h < 4200) (h115 : X.1 73 115 = nI (h + 1)) (hk : X.1 78 i = 35) (h80 : X.1 80 i = nI j) (hx : X.2 147 h = lN NX) (hX : NX ≤ 1) : zMi l Gr (zc n w) 168 M_Mo_meanStatement d [.ref 105, .int (nI i)] X (fun y X' => y = nI (if NX = 0 then j + 1 else i + 1) ∧ X' = zi X 73 115 (nI h)) := by
  have ci : (nI i).toNatClampNeg = i := nI_clamp (by omega)
  have vi : vp_in (nI i) 12000 := vp_in_nI hi (by omega)
  have e1 : X.1 73 115 - 1 = nI h := by rw [h115]; exact sub_nn (b := 1) (by omega)
  have c0 : lg_cmp (lN NX) 0 = 0 ↔ NX = 0 := by rw [lg_cmp_eq, show (0 : Int64) = lN 0 from rfl, pk_lEQ (by omega) (by omega)]
  refine e_Mo_meanStatement (b_Mo_meanStatement_0 vi (fun q => ?_) (fun q => ?_) (fun q => ?_) (fun q => ?_) (fun q => ?_) (fun q => ?_) (fun _ => b_Mo_meanStatement_388 (by rw [e1]; exact vp_in_nI hh (by omega)) (fun y => ?_) (fun y => ?_)) (fun q => ?_) (fun q => ?_) (fun q => ?_) (fun _ _ _ _ _ _ q => ?_))
  all_goals first
    | (rw [ci, hk] at q; exact absurd q (by decide))
    | skip
  · rw [e1, nI_clamp (by omega), hx] at y
    rw [e1, if_neg (fun q => y (c0.mpr q))]
    exact mt_fin
  · rw [e1, nI_clamp (by omega), hx] at y
    rw [e1, if_pos (c0.mp y)]
    refine b_Mo_meanStatement_412 vi ⟨_, rfl, ?_, rfl⟩
    rw [ci, zi_c (by decide), h80]
    exact nI_add j 1
theorem mt_for (hi : i < 12000) (hh : h + 2 ≤ 4200) (h115 : X.1 73 115 = nI (h + 2)) (hk : X.1 78 i = 39) (h80 : X.1 80 i = nI j) (hx : X.2 147 h = lN NX) (hy : X.2 147 (h + 1) = lN NY) (hX : NX < 2 ^ 32) (hY : NY < 2 ^ 32) : zMi l Gr (zc n w) 168 M_Mo_meanStatement d [.ref 105, .int (nI i)] X (fun y X' => (NX ≤ NY → y = nI (i + 1) ∧ X' = zj (zj (zi X 73 115 (nI h)) 141 i (lN NX)) 142 i (lN NY)) ∧ (¬ NX ≤ NY → y = nI (j + 1) ∧ X' = zi X 73 115 (nI h))) := by
  have ci : (nI i).toNatClampNeg = i := nI_clamp (by omega)
  have vi : vp_in (nI i) 12000 := vp_in_nI hi (by omega)
  have e1 : X.1 73 115 - 2 = nI h := by rw [h115]; exact sub_nn (b := 2) (by omega)
  have e2 : nI h + 1 = nI (h + 1) := nI_add h 1
  have c0 : lg_cmp (lN NX) (lN NY) ≤ 0 ↔ NX ≤ NY := by rw [lg_cmp_le, pk_lLE (by omega) (by omega)]
  refine e_Mo_meanStatement (b_Mo_meanStatement_0 vi (fun q => ?_) (fun q => ?_) (fun q => ?_) (fun q => ?_) (fun q => ?_) (fun q => ?_) (fun q => ?_) (fun q => ?_) (fun _ => b_Mo_meanStatement_430 (by rw [e1]; exact vp_in_nI (by omega) (by omega)) (by rw [e1, e2]; exact vp_in_nI (by omega) (by omega)) (fun y => ?_) (fun y => ?_)) (fun q => ?_) (fun _ _ _ _ _ _ _ _ q => ?_))
  all_goals first
    | (rw [ci, hk] at q; exact absurd q (by decide))
    | skip
  · rw [e1, e2, nI_clamp (by omega), nI_clamp (by omega), hx, hy] at y
    rw [e1]
    refine b_Mo_meanStatement_473 (by rw [zi_v]; exact vp_in_nI (by omega) (by omega)) vi (by rw [zi_v, e2]; exact vp_in_nI (by omega) (by omega)) ?_
    rw [zi_v, e2, ci, nI_clamp (by omega), nI_clamp (by omega)]
    have hx' : (zi X 73 115 (nI h)).2 147 h = lN NX := hx
    have hy' : (zi X 73 115 (nI h)).2 147 (h + 1) = lN NY := hy
    rw [hx', hy']
    refine b_Mo_meanStatement_558 ⟨_, rfl, fun _ => ⟨nI_add i 1, rfl⟩, fun q => absurd (c0.mp y) q⟩
  · rw [e1, e2, nI_clamp (by omega), nI_clamp (by omega), hx, hy] at y
    rw [e1]
    refine b_Mo_meanStatement_464 vi ⟨_, rfl, fun q => absurd (c0.mpr q) y, fun _ => ⟨?_, rfl⟩⟩
    rw [ci, zi_c (by decide), h80]
    exact nI_add j 1
theorem mt_efor (hi : i < 12000) (hk : X.1 78 i = 40) (h79 : X.1 79 i = nI a) (ha : a < 12000) (hx : X.2 141 a = lN NX) (hy : X.2 142 a = lN NY) (hX : NX < 2 ^ 33) (hY : NY < 2 ^ 33) : zMi l Gr (zc n w) 168 M_Mo_meanStatement d [.ref 105, .int (nI i)] X (fun y X' => (NX < NY → y = nI (a + 1) ∧ X' = zj X 141 a (lN (NX + 1))) ∧ (¬ NX < NY → y = nI (i + 1) ∧ X' = X)) := by
  have ci : (nI i).toNatClampNeg = i := nI_clamp (by omega)
  have ca : (nI a).toNatClampNeg = a := nI_clamp (by omega)
  have vi : vp_in (nI i) 12000 := vp_in_nI hi (by omega)
  have va : vp_in (nI a) 12000 := vp_in_nI ha (by omega)
  have c0 : 0 ≤ lg_cmp (lN NX) (lN NY) ↔ NY ≤ NX := by rw [lg_cmp_ge, pk_lLE (by omega) (by omega)]
  refine e_Mo_meanStatement (b_Mo_meanStatement_0 vi (fun q => ?_) (fun q => ?_) (fun q => ?_) (fun q => ?_) (fun q => ?_) (fun q => ?_) (fun q => ?_) (fun q => ?_) (fun q => ?_) (fun _ => b_Mo_meanStatement_508 vi (by rw [ci, h79]; exact va) (fun y => ?_) (fun y => ?_)) (fun _ _ _ _ _ _ _ _ _ q => ?_))
  all_goals first
    | (rw [ci, hk] at q; exact absurd q (by decide))
    | skip
  · rw [ci, h79, ca, hx, hy] at y
    have y' := c0.mp y
    exact b_Mo_meanStatement_558 ⟨_, rfl, fun q => absurd y' (by omega), fun _ => ⟨nI_add i 1, rfl⟩⟩
  · rw [ci, h79, ca, hx, hy] at y
    have y' : ¬ NY ≤ NX := fun q => y (c0.mpr q)
    refine b_Mo_meanStatement_534 vi (by rw [ci, h79]; exact va) ⟨_, rfl, fun _ => ⟨?_, ?_⟩, fun q => absurd (by omega) q⟩
    · rw [ci, h79]
      exact nI_add a 1
    · rw [ci, h79, ca, hx, lN_1]
end MSU
