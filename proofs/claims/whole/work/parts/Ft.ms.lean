/-! mean()'s operands: inputs, parameters, bits, elements -/
def inW (X : zS) (a : Nat) : Int64 := if X.1 73 124 = 0 then X.2 118 a else X.2 119 a
section MOS
variable {l : Launch} {Gr : zG} {n w d i h a f b0 z NX NY : Nat} {X : zS} {v : Int64}
theorem wm_inW (ha : a < 256) : zMl l Gr (zc n w) 168 M_Mo_inputWord d [.ref 105, .int (nI a)] X (fun v X' => v = inW X a ∧ X' = X) := by
  have ca : (nI a).toNatClampNeg = a := nI_clamp (by omega)
  have va : vp_in (nI a) 256 := vp_in_nI ha (by omega)
  unfold inW
  refine e_Mo_inputWord (b_Mo_inputWord_0 (fun y => b_Mo_inputWord_16 va (b_Mo_inputWord_22 ⟨_, rfl, by rw [ca, if_pos y], rfl⟩)) (fun y => b_Mo_inputWord_7 va (b_Mo_inputWord_22 ⟨_, rfl, by rw [ca, if_neg y], rfl⟩)))
/-- an input's word -/
theorem mo_inp (hg : ip_gk (lg_tbl, vwCl, Gr)) (hi : i < 12000) (hh : h < 4200) (h115 : X.1 73 115 = nI h) (hk : X.1 78 i = 5) (h102 : X.1 102 i = 1) (h103 : X.1 103 i = nI a) (ha : a < 256) : zMi l Gr (zc n w) 168 M_Mo_meanOperand (d + 1) [.ref 105, .int (nI i)] X (fun z X' => z = nI (i + 1) ∧ X' = mPu X h (inW X a)) := by
  have ci : (nI i).toNatClampNeg = i := nI_clamp (by omega)
  have vi : vp_in (nI i) 12000 := vp_in_nI hi (by omega)
  refine e_Mo_meanOperand (mo_nam hi hk (b_Mo_meanOperand_107 vi (fun y => absurd (by rw [ci]; exact h102) y) (fun _ => b_Mo_meanOperand_120 hg vi (by rw [ci, h103]; exact wm_inW ha) (fun v X' e => ?_))))
  obtain ⟨rfl, rfl⟩ := e
  exact b_Mo_meanOperand_130 (mo_210 hg hh h115)
/-- a parameter's word -/
theorem mo_par (hg : ip_gk (lg_tbl, vwCl, Gr)) (hi : i < 12000) (hh : h < 4200) (h115 : X.1 73 115 = nI h) (hk : X.1 78 i = 5) (h1 : ¬ X.1 102 i = 1) (h2 : ¬ X.1 102 i = 2) (h3 : ¬ X.1 102 i = 3) (h103 : X.1 103 i = nI a) (hf : f < 400) (h110 : X.1 73 110 = nI (f + 1)) (h144 : X.1 144 f = nI b0) (hb : b0 + a < 4200) : zMi l Gr (zc n w) 168 M_Mo_meanOperand (d + 1) [.ref 105, .int (nI i)] X (fun z X' => z = nI (i + 1) ∧ X' = mPu X h (X.2 147 (b0 + a))) := by
  have ci : (nI i).toNatClampNeg = i := nI_clamp (by omega)
  have vi : vp_in (nI i) 12000 := vp_in_nI hi (by omega)
  have e1 : X.1 73 110 - 1 = nI f := by rw [h110]; exact sub_nn (b := 1) (by omega)
  have cf : (nI f).toNatClampNeg = f := nI_clamp (by omega)
  refine e_Mo_meanOperand (mo_nam hi hk (b_Mo_meanOperand_107 vi (fun _ => ?_) (fun y => absurd (by rw [ci] at y; exact y) h1)))
  rw [ci]
  refine b_Mo_meanOperand_133 (fun _ => b_Mo_meanOperand_152 (fun _ => b_Mo_meanOperand_176 (fun y => absurd y (by rw [h110]; exact nI_ge (a := 0) (by omega) (by omega))) (fun _ => b_Mo_meanOperand_191 ?_)) (fun y => absurd y h3)) (fun y => absurd y h2)
  rw [e1]
  refine b_Mo_meanOperand_201 (vp_in_nI hf (by omega)) vi (by rw [cf, h144, ci, h103, nI_add]; exact vp_in_nI hb (by omega)) ?_
  rw [cf, h144, ci, h103, nI_add, nI_clamp (by omega)]
  exact mo_210 hg hh h115
/-- a bit of a word -/
theorem mo_bitw (hi : i < 12000) (hh : h + 2 ≤ 4200) (h115 : X.1 73 115 = nI (h + 2)) (hk : X.1 78 i = 11) (hx : X.2 147 h = lN NX) (hy : X.2 147 (h + 1) = lN NY) (hX : NX < 2 ^ 32) (hY : NY < 32) : zMi l Gr (zc n w) 168 M_Mo_meanOperand (d + 1) [.ref 105, .int (nI i)] X (fun z X' => z = nI (i + 1) ∧ X' = mPo X h (lN (NX / 2 ^ NY % 2))) := by
  have ci : (nI i).toNatClampNeg = i := nI_clamp (by omega)
  have vi : vp_in (nI i) 12000 := vp_in_nI hi (by omega)
  have e1 : X.1 73 115 - 1 = nI (h + 1) := by rw [h115]; exact sub_nn (b := 1) (by omega)
  have e2 : X.1 73 115 - 1 - 1 = nI h := by rw [e1]; exact sub_nn (b := 1) (by omega)
  have e3 : ((lN NX >>> (((lN NY).toInt32 : Int32).toInt64 &&& 63)) &&& 1) = lN (NX / 2 ^ NY % 2) := by
    rw [lN_i, sarL hY (by omega), show (1 : Int64) = lN 1 from rfl, anLL (Nat.lt_of_le_of_lt (Nat.div_le_self _ _) (by omega)) (by omega), Nat.and_one_is_mod]
  refine e_Mo_meanOperand (b_Mo_meanOperand_0 vi (fun q => ?_) (fun q => ?_) (fun q => ?_) (fun q => ?_) (fun q => ?_) (fun q => ?_) (fun _ => b_Mo_meanOperand_357 (by rw [e2]; exact vp_in_nI (by omega) (by omega)) (by rw [e1]; exact vp_in_nI (by omega) (by omega)) ?_) (fun q => ?_) (fun q => ?_) (fun q => ?_) (fun _ _ _ _ _ _ q => ?_))
  all_goals first
    | (rw [ci, hk] at q; exact absurd q (by decide))
    | skip
  rw [e2, e1, nI_clamp (show h < 2 ^ 31 by omega), nI_clamp (show h + 1 < 2 ^ 31 by omega), hx, hy, e3]
  exact mo_fin
/-- an element's word -/
theorem mo_elt (hg : ip_gk (lg_tbl, vwCl, Gr)) (hi : i < 12000) (hh : h < 4200) (h115 : X.1 73 115 = nI (h + 1)) (hk : X.1 78 i = 7) (hx : X.2 147 h = lN NX) (hX : NX < 2 ^ 32) (h104 : X.1 104 i = nI z) (hz : z ≤ 256) (h103 : X.1 103 i = nI a) (ha : a + z ≤ 256) : zMi l Gr (zc n w) 168 M_Mo_meanOperand (d + 1) [.ref 105, .int (nI i)] X (fun y X' => y = nI (i + 1) ∧ X' = mPu (zi X 73 115 (nI h)) h (if NX < z then (if X.1 102 i = 1 then inW X (a + NX) else X.2 148 (a + NX)) else 0)) := by
  have ci : (nI i).toNatClampNeg = i := nI_clamp (by omega)
  have vi : vp_in (nI i) 12000 := vp_in_nI hi (by omega)
  have e1 : X.1 73 115 - 1 = nI h := by rw [h115]; exact sub_nn (b := 1) (by omega)
  have ez : (nI z).toInt64 = lN z := (show ∀ z, z < 257 → (nI z).toInt64 = lN z by decide +kernel) z (by omega)
  have last : ∀ u : Int64, u = (if NX < z then (if X.1 102 i = 1 then inW X (a + NX) else X.2 148 (a + NX)) else 0) → zW l Gr (zc n w) 168 M_Mo_meanOperand (d + 1) 293 [some (.ref 105), some (.int (nI i)), none, none, some (.long u), none] [] (zi X 73 115 (nI h)) (fun y X' => ∃ x, y = some (.int x) ∧ x = nI (i + 1) ∧ X' = mPu (zi X 73 115 (nI h)) h (if NX < z then (if X.1 102 i = 1 then inW X (a + NX) else X.2 148 (a + NX)) else 0)) := fun u hu => by
    refine b_Mo_meanOperand_293 hg (wm_pushW hh zi_v) (fun X' e => ?_)
    subst e
    rw [← hu]
    exact b_Mo_meanOperand_299 mo_fin
  refine e_Mo_meanOperand (b_Mo_meanOperand_0 vi (fun q => ?_) (fun q => ?_) (fun q => ?_) (fun q => ?_) (fun _ => b_Mo_meanOperand_216 (by rw [e1]; exact vp_in_nI hh (by omega)) vi (fun y => ?_) (fun y => ?_)) (fun q => ?_) (fun q => ?_) (fun q => ?_) (fun q => ?_) (fun q => ?_) (fun _ _ _ _ q => ?_))
  all_goals first
    | (rw [ci, hk] at q; exact absurd q (by decide))
    | skip
  · rw [e1, nI_clamp (by omega), hx, ci, h104, ez, lg_cmp_ge, pk_lLE (by omega) (by omega)] at y
    rw [e1]
    exact last 0 (by rw [if_neg (by omega)])
  · rw [e1, nI_clamp (by omega), hx, ci, h104, ez, lg_cmp_ge, pk_lLE (by omega) (by omega)] at y
    rw [e1, nI_clamp (by omega), hx]
    have eI : (zi X 73 115 (nI h)).1 103 (nI i).toNatClampNeg + (lN NX).toInt32 = nI (a + NX) := by rw [ci, zi_c (by decide), h103, lN_i, nI_add]
    refine b_Mo_meanOperand_251 vi (fun q => b_Mo_meanOperand_277 vi (by rw [eI]; exact vp_in_nI (by omega) (by omega)) (b_Mo_meanOperand_291 (last _ ?_))) (fun q => b_Mo_meanOperand_261 hg vi (by rw [eI]; exact wm_inW (by omega)) (fun u X' e => ?_))
    · rw [ci, zi_c (by decide)] at q
      rw [eI, nI_clamp (by omega), if_pos (by omega), if_neg q]
      rfl
    · obtain ⟨rfl, rfl⟩ := e
      rw [ci, zi_c (by decide)] at q
      refine b_Mo_meanOperand_274 (b_Mo_meanOperand_291 (last _ ?_))
      rw [if_pos (by omega), if_pos q]
      unfold inW
      rw [zi_k (by decide)]
      rfl
end MOS
