/-! mean()'s operands and statements that are left: nothing, shifts, calls; var, a def's end, a[i] = -/
section MSW
variable {l : Launch} {Gr : zG} {n w d i h a j f k m p NX NY z o : Nat} {X : zS} {v : Int64}
theorem mo_nop (hi : i < 12000) (hk : X.1 78 i = nI z) (hn : z = 1 ∨ z = 6 ∨ z = 8 ∨ z = 10 ∨ z = 15 ∨ z = 16) : zMi l Gr (zc n w) 168 M_Mo_meanOperand (d + 1) [.ref 105, .int (nI i)] X (fun y X' => y = nI (i + 1) ∧ X' = X) := by
  have ci : (nI i).toNatClampNeg = i := nI_clamp (by omega)
  have vi : vp_in (nI i) 12000 := vp_in_nI hi (by omega)
  refine e_Mo_meanOperand (b_Mo_meanOperand_0 vi (fun q => ?_) (fun q => ?_) (fun q => ?_) (fun q => ?_) (fun q => ?_) (fun q => ?_) (fun q => ?_) (fun q => ?_) (fun q => ?_) (fun q => ?_) (fun _ _ _ _ _ _ _ _ _ _ => mo_fin))
  all_goals
    rw [ci, hk] at q
    rcases hn with e | e | e | e | e | e <;> (rw [e] at q; exact absurd q (by decide))
/-- shifts -/
theorem mo_shf (hg : ip_gk (lg_tbl, vwCl, Gr)) (hw : 1 ≤ w ∧ w ≤ 32) (hi : i < 12000) (hh : h + 2 ≤ 4200) (h115 : X.1 73 115 = nI (h + 2)) (hk : X.1 78 i = 13) (h79 : X.1 79 i = nI o) (hx : X.2 147 h = lN NX) (hy : X.2 147 (h + 1) = lN NY) (hX : NX < 2 ^ w) (hY : NY < 32) (ho : o = 12 ∨ o = 13) : zMi l Gr (zc n w) 168 M_Mo_meanOperand (d + 2) [.ref 105, .int (nI i)] X (fun z X' => z = nI (i + 1) ∧ X' = mPo X h (lN (if o = 12 then NX * 2 ^ NY % 2 ^ w else NX / 2 ^ NY))) := by
  have ci : (nI i).toNatClampNeg = i := nI_clamp (by omega)
  have vi : vp_in (nI i) 12000 := vp_in_nI hi (by omega)
  have e1 : X.1 73 115 - 1 = nI (h + 1) := by rw [h115]; exact sub_nn (b := 1) (by omega)
  have e2 : X.1 73 115 - 1 - 1 = nI h := by rw [e1]; exact sub_nn (b := 1) (by omega)
  have h2 : 2 ^ w ≤ 2 ^ 32 := Nat.pow_le_pow_right (by omega) hw.2
  have dis : ∀ {a : Nat} {x : Int32} {P : Prop}, a < 100 → x.toInt ≠ a → nI a = x → P := fun {a x P} ha hx e => absurd (by rw [← e]; exact nI_toInt (by omega)) hx
  have go : ∀ S : zS, zMl l Gr (zc n w) 168 M_Mo_meanBinary (d + 1) [.ref 105, .int (nI o), .long (lN NX), .long (lN NY)] S (fun v S' => v = lN (if o = 12 then NX * 2 ^ NY % 2 ^ w else NX / 2 ^ NY) ∧ S' = S) := fun S => by
    refine e_Mo_meanBinary (b_Mo_meanBinary_0 (fun e => ?_) (fun e => ?_) (fun e => ?_) (fun e => ?_) (fun e => ?_) (fun e => ?_) (fun e => ?_) (fun e => ?_) (fun e => ?_) (fun e => ?_) (fun e => ?_) (fun e => ?_) (fun e => ?_) (fun e => ?_) (fun e => ?_) (fun e => ?_) (fun e => ?_) (fun e1 e2 e3 e4 e5 e6 e7 e8 e9 e10 e11 e12 e13 e14 e15 e16 e17 => ?_))
    all_goals first
      | (rcases ho with q | q <;> (rw [q] at e; exact absurd e (by decide)))
      | skip
    · have eo : o = 12 := (nI_eq (b := 12) (by omega) (by omega)).mp e
      refine b_Mo_meanBinary_209 ⟨_, rfl, ?_, rfl⟩
      rw [lN_i, show lN NX <<< ((nI NY).toInt64 &&& 63) = lN (NX * 2 ^ NY) from shl_n (by omega), msk_l hw.2, if_pos eo]
    · have eo : o = 13 := (nI_eq (b := 13) (by omega) (by omega)).mp e
      refine b_Mo_meanBinary_220 ⟨_, rfl, ?_, rfl⟩
      rw [lN_i, sarL hY (by omega), if_neg (by omega)]
    · rcases ho with q | q
      · exact absurd (by rw [q]; rfl) e12
      · exact absurd (by rw [q]; rfl) e13
  refine e_Mo_meanOperand (b_Mo_meanOperand_0 vi (fun q => ?_) (fun q => ?_) (fun q => ?_) (fun q => ?_) (fun q => ?_) (fun q => ?_) (fun q => ?_) (fun q => ?_) (fun _ => b_Mo_meanOperand_479 hg vi (by rw [e2]; exact vp_in_nI (by omega) (by omega)) (by rw [e1]; exact vp_in_nI (by omega) (by omega)) (R := fun v X' => v = lN (if o = 12 then NX * 2 ^ NY % 2 ^ w else NX / 2 ^ NY) ∧ X' = zi X 73 115 (nI (h + 1))) (by rw [ci, h79, e2, e1, nI_clamp (show h < 2 ^ 31 by omega), nI_clamp (show h + 1 < 2 ^ 31 by omega), hx, hy]; exact go _) (fun v X' e => ?_)) (fun q => ?_) (fun _ _ _ _ _ _ _ _ q => ?_))
  all_goals first
    | (rw [ci, hk] at q; exact absurd q (by decide))
    | skip
  obtain ⟨rfl, rfl⟩ := e
  rw [e2]
  refine b_Mo_meanOperand_529 (vp_in_nI (by omega) (by omega)) ?_
  rw [nI_clamp (by omega)]
  exact mo_fin
/-- a call -/
def mCl (X : zS) (h m i f : Nat) : zS := zi (zi (zi X 144 f (nI (h - m))) 145 f (nI (i + 1))) 73 110 (nI (f + 1))
theorem mo_call (hg : ip_gk (lg_tbl, vwCl, Gr)) (hi : i < 12000) (hk : X.1 78 i = 9) (h103 : X.1 103 i = nI a) (ha : a < 12000) (h80 : X.1 80 a = nI m) (hm : m ≤ h) (hh : h ≤ 4200) (h115 : X.1 73 115 = nI h) (hf : f < 400) (h110 : X.1 73 110 = nI f) : zMi l Gr (zc n w) 168 M_Mo_meanOperand (d + 1) [.ref 105, .int (nI i)] X (fun y X' => y = nI (a + m + 2) ∧ X' = mCl X h m i f) := by
  have ci : (nI i).toNatClampNeg = i := nI_clamp (by omega)
  have ca : (nI a).toNatClampNeg = a := nI_clamp (by omega)
  have cf : (nI f).toNatClampNeg = f := nI_clamp (by omega)
  have vi : vp_in (nI i) 12000 := vp_in_nI hi (by omega)
  have va : vp_in (nI a) 12000 := vp_in_nI ha (by omega)
  refine e_Mo_meanOperand (b_Mo_meanOperand_0 vi (fun q => ?_) (fun q => ?_) (fun q => ?_) (fun q => ?_) (fun q => ?_) (fun _ => b_Mo_meanOperand_302 hg vi (by rw [ci, h103]; exact va) (by rw [h110]; exact vp_in_nI hf (by omega)) (R := fun y X' => y = nI (a + m + 2) ∧ X' = mCl X h m i f) ?_ (fun v X' e => ?_)) (fun q => ?_) (fun q => ?_) (fun q => ?_) (fun q => ?_) (fun _ _ _ _ _ q => ?_))
  all_goals first
    | (rw [ci, hk] at q; exact absurd q (by decide))
    | skip
  · rw [ci, h103, ca, h110, cf, h115, h80, sub_nn hm, show nI i + 1 = nI (i + 1) from nI_add i 1, show nI f + 1 = nI (f + 1) from nI_add f 1]
    refine e_Mo_bodyOf (b_Mo_bodyOf_0 va ⟨_, rfl, ?_, rfl⟩)
    rw [ca, zi_c (by decide), zi_c (by decide), zi_c (by decide), h80, nI_add, show nI (a + m) + 2 = nI (a + m + 2) from nI_add _ 2]
  · obtain ⟨rfl, rfl⟩ := e
    exact b_Mo_meanOperand_356 ⟨_, rfl, rfl, rfl⟩
/-- a def's end -/
theorem mt_dend (hi : i < 12000) (hk : X.1 78 i = 29) (hf : f < 400) (h110 : X.1 73 110 = nI (f + 1)) (h115 : X.1 73 115 = nI (h + 1)) (hh : h < 4200) (h144 : X.1 144 f = nI k) (hk2 : k < 4200) (h145 : X.1 145 f = nI j) : zMi l Gr (zc n w) 168 M_Mo_meanStatement d [.ref 105, .int (nI i)] X (fun y X' => y = nI j ∧ X' = zi (zj (zi X 73 110 (nI f)) 147 k (X.2 147 h)) 73 115 (nI (k + 1))) := by
  have ci : (nI i).toNatClampNeg = i := nI_clamp (by omega)
  have cf : (nI f).toNatClampNeg = f := nI_clamp (by omega)
  have vi : vp_in (nI i) 12000 := vp_in_nI hi (by omega)
  have e1 : X.1 73 110 - 1 = nI f := by rw [h110]; exact sub_nn (b := 1) (by omega)
  have e2 : X.1 73 115 - 1 = nI h := by rw [h115]; exact sub_nn (b := 1) (by omega)
  refine e_Mo_meanStatement (b_Mo_meanStatement_0 vi (fun q => ?_) (fun q => ?_) (fun _ => b_Mo_meanStatement_188 (by rw [e1]; exact vp_in_nI hf (by omega)) (by rw [e2]; exact vp_in_nI hh (by omega)) (by rw [e1, cf, h144]; exact vp_in_nI hk2 (by omega)) ⟨_, rfl, ?_, ?_⟩) (fun q => ?_) (fun q => ?_) (fun q => ?_) (fun q => ?_) (fun q => ?_) (fun q => ?_) (fun q => ?_) (fun _ _ q => ?_))
  all_goals first
    | (rw [ci, hk] at q; exact absurd q (by decide))
    | skip
  · rw [e1, cf, h145]
  · rw [e1, cf, e2, h144, nI_clamp (show k < 2 ^ 31 by omega), nI_clamp (show h < 2 ^ 31 by omega), show nI k + 1 = nI (k + 1) from nI_add k 1]
/-- a[i] = EXPR -/
theorem mt_seta (hi : i < 12000) (hh : h + 2 ≤ 4200) (h115 : X.1 73 115 = nI (h + 2)) (hk : X.1 78 i = 34) (hx : X.2 147 h = lN NX) (hX : NX < 2 ^ 32) (h104 : X.1 104 i = nI z) (hz : z ≤ 256) (h103 : X.1 103 i = nI a) (ha : a + z ≤ 256) : zMi l Gr (zc n w) 168 M_Mo_meanStatement d [.ref 105, .int (nI i)] X (fun y X' => y = nI (i + 1) ∧ X' = if NX < z then zj (zi X 73 115 (nI h)) 148 (a + NX) (X.2 147 (h + 1)) else zi X 73 115 (nI h)) := by
  have ci : (nI i).toNatClampNeg = i := nI_clamp (by omega)
  have vi : vp_in (nI i) 12000 := vp_in_nI hi (by omega)
  have e1 : X.1 73 115 - 2 = nI h := by rw [h115]; exact sub_nn (b := 2) (by omega)
  have e2 : nI h + 1 = nI (h + 1) := nI_add h 1
  have c0 : 0 ≤ lg_cmp (lN NX) ((nI z).toInt64) ↔ z ≤ NX := by rw [(show ∀ z, z < 257 → (nI z).toInt64 = lN z by decide +kernel) z (by omega), lg_cmp_ge, pk_lLE (by omega) (by omega)]
  refine e_Mo_meanStatement (b_Mo_meanStatement_0 vi (fun q => ?_) (fun q => ?_) (fun q => ?_) (fun q => ?_) (fun q => ?_) (fun _ => b_Mo_meanStatement_322 (by rw [e1]; exact vp_in_nI (by omega) (by omega)) vi (fun y => ?_) (fun y => ?_)) (fun q => ?_) (fun q => ?_) (fun q => ?_) (fun q => ?_) (fun _ _ _ _ _ q => ?_))
  all_goals first
    | (rw [ci, hk] at q; exact absurd q (by decide))
    | skip
  · rw [e1, nI_clamp (by omega), hx, ci, h104] at y
    have y' := c0.mp y
    rw [e1, if_neg (by omega)]
    exact mt_fin
  · rw [e1, nI_clamp (by omega), hx, ci, h104] at y
    have y' : ¬ z ≤ NX := fun q => y (c0.mpr q)
    have hx' : (zi X 73 115 (nI h)).2 147 h = lN NX := hx
    rw [e1, if_pos (by omega)]
    refine b_Mo_meanStatement_352 vi (by rw [zi_v]; exact vp_in_nI (by omega) (by omega)) (by rw [zi_v, e2]; exact vp_in_nI (by omega) (by omega)) ?_ ?_
    · rw [zi_v, ci, nI_clamp (by omega), hx', lN_i, zi_c (by decide), h103, nI_add]
      exact vp_in_nI (by omega) (by omega)
    · rw [zi_v, ci, nI_clamp (by omega), hx', lN_i, zi_c (by decide), h103, nI_add, e2, nI_clamp (by omega), nI_clamp (by omega)]
      exact mt_fin
/-- words a .. a + m are v -/
def vrW (X : zS) (a : Nat) (v : Int64) : Nat → zS
  | 0 => X
  | m + 1 => zj (vrW X a v m) 148 (a + m) v
theorem vrW_1 (X : zS) (a : Nat) (v : Int64) : ∀ m, (vrW X a v m).1 = X.1
  | 0 => rfl
  | m + 1 => vrW_1 X a v m
theorem vrW_2 (X : zS) (a : Nat) (v : Int64) (c k : Nat) : ∀ m, (vrW X a v m).2 c k = if c = 148 ∧ a ≤ k ∧ k < a + m then v else X.2 c k
  | 0 => by rw [if_neg (by omega)]; rfl
  | m + 1 => by
    show (zj (vrW X a v m) 148 (a + m) v).2 c k = _
    rw [zj_get, vrW_2 X a v c k m]
    by_cases q : c = 148 ∧ k = a + m
    · rw [if_pos q, if_pos (by omega)]
    · rw [if_neg q]
      by_cases q2 : c = 148 ∧ a ≤ k ∧ k < a + m
      · rw [if_pos q2, if_pos (by omega)]
      · rw [if_neg q2, if_neg (by omega)]
theorem mt_vlp {x2 : Int64} (hi : i < 12000) (ha : a + max 1 z ≤ 256) (h89 : X.1 89 i = nI a) : ∀ c t, t + c = max 1 z → zW l Gr (zc n w) 168 M_Mo_meanStatement d 138 [some (.ref 105), some (.int (nI i)), some (.long x2), none, some (.int (nI z)), some (.int (nI t))] [] (vrW X a x2 t) (fun y X' => ∃ v, y = some (.int v) ∧ v = nI (i + 1) ∧ X' = vrW X a x2 (max 1 z)) := fun c => by
  have ci : (nI i).toNatClampNeg = i := nI_clamp (by omega)
  have vi : vp_in (nI i) 12000 := vp_in_nI hi (by omega)
  have enter : ∀ (t : Nat) (Y : zS) (Q : Option Value → zS → Prop), zW l Gr (zc n w) 168 M_Mo_meanStatement d 151 [some (.ref 105), some (.int (nI i)), some (.long x2), none, some (.int (nI z)), some (.int (nI t))] [.int (nI (max 1 z)), .int (nI t)] Y Q → zW l Gr (zc n w) 168 M_Mo_meanStatement d 138 [some (.ref 105), some (.int (nI i)), some (.long x2), none, some (.int (nI z)), some (.int (nI t))] [] Y Q := fun t Y Q q => by
    refine b_Mo_meanStatement_138 (fun y => b_Mo_meanStatement_149 ?_) (fun y => b_Mo_meanStatement_145 ?_)
    · have : ¬ z = 0 := fun e => y (by rw [e]; rfl)
      rw [show max 1 z = z by omega] at q
      exact q
    · have : z = 0 := (nI_eq (b := 0) (by omega) (by omega)).mp y
      rw [show max 1 z = 1 by omega] at q
      exact q
  induction c with
  | zero =>
    intro t ht
    refine enter t _ _ (b_Mo_meanStatement_151 (fun _ => b_Mo_meanStatement_175 ?_) (fun y => absurd (nI_le (by omega) (by omega)) y))
    rw [show t = max 1 z by omega]
    exact mt_fin
  | succ c ih =>
    intro t ht
    refine enter t _ _ (b_Mo_meanStatement_151 (fun y => absurd y (nI_ge (by omega) (by omega))) (fun _ => b_Mo_meanStatement_154 vi ?_ ?_))
    · rw [vrW_1, ci, h89, nI_add]
      exact vp_in_nI (by omega) (by omega)
    · rw [vrW_1, ci, h89, nI_add, nI_clamp (by omega), show nI t + Int32.ofInt 1 = nI (t + 1) from nI_add t 1]
      exact ih (t + 1) (by omega)
/-- var -/
theorem mt_var (hi : i < 12000) (hk : X.1 78 i = 25) (hz : z ≤ 64) (hp : p = 0 ∨ p = 1) (hq : k < 256) (h82 : X.2 82 i = lN (k + 256 * z + 65536 * p)) (h115 : p = 1 → h < 4200 ∧ X.1 73 115 = nI (h + 1)) (h89 : X.1 89 i = nI a) (ha : a + max 1 z ≤ 256) : zMi l Gr (zc n w) 168 M_Mo_meanStatement d [.ref 105, .int (nI i)] X (fun y X' => y = nI (i + 1) ∧ X' = if p = 1 then vrW (zi X 73 115 (nI h)) a (X.2 147 h) (max 1 z) else vrW X a 0 (max 1 z)) := by
  have ci : (nI i).toNatClampNeg = i := nI_clamp (by omega)
  have vi : vp_in (nI i) 12000 := vp_in_nI hi (by omega)
  have hd : ((k + 256 * z + 65536 * p) / 2 ^ 8) % 256 = z := by omega
  have ez : ((((lN (k + 256 * z + 65536 * p) >>> ((8 : Int32).toInt64 &&& 63)) &&& 255)).toInt32 : Int32) = nI z := by
    rw [show (8 : Int32) = nI 8 from rfl, sarL (by omega) (by omega), show (255 : Int64) = lN 255 from rfl, anLL (by omega) (by omega), show (255 : Nat) = 2 ^ 8 - 1 from rfl, Nat.and_two_pow_sub_one_eq_mod, lN_i]
    exact congrArg nI hd
  have c0 : lg_cmp (lN (k + 256 * z + 65536 * p)) 65536 < 0 ↔ p = 0 := by
    rw [lg_cmp_lt, show (65536 : Int64) = lN 65536 from rfl, pk_lLT (by omega) (by omega)]
    omega
  refine e_Mo_meanStatement (b_Mo_meanStatement_0 vi (fun _ => b_Mo_meanStatement_84 vi (fun y => ?_) (fun y => ?_)) (fun q => ?_) (fun q => ?_) (fun q => ?_) (fun q => ?_) (fun q => ?_) (fun q => ?_) (fun q => ?_) (fun q => ?_) (fun q => ?_) (fun q => ?_))
  all_goals first
    | (rw [ci, hk] at q; exact absurd q (by decide))
    | skip
  · rw [ci, h82] at y
    rw [if_neg (show ¬ p = 1 by have := c0.mp y; omega)]
    refine b_Mo_meanStatement_119 vi ?_
    rw [ci, h82, ez]
    exact mt_vlp hi ha h89 (max 1 z) 0 (by omega)
  · rw [ci, h82] at y
    have p1 : p = 1 := by
      have : ¬ p = 0 := fun q => y (c0.mpr q)
      omega
    obtain ⟨hh, h115⟩ := h115 p1
    have e1 : X.1 73 115 - 1 = nI h := by rw [h115]; exact sub_nn (b := 1) (by omega)
    rw [if_pos p1]
    refine b_Mo_meanStatement_99 (by rw [e1]; exact vp_in_nI hh (by omega)) (b_Mo_meanStatement_119 vi ?_)
    have h82' : (zi X 73 115 (nI h)).2 82 i = lN (k + 256 * z + 65536 * p) := h82
    rw [e1, ci, h82', ez, nI_clamp (by omega)]
    exact mt_vlp (X := zi X 73 115 (nI h)) hi ha (by rw [zi_c (by decide)]; exact h89) (max 1 z) 0 (by omega)
/-- statements without a meaning -/
theorem mt_nop (hi : i < 12000) (hk : X.1 78 i = nI z) (hn : z = 20 ∨ z = 21 ∨ z = 22 ∨ z = 23 ∨ z = 24 ∨ z = 27 ∨ z = 28 ∨ z = 31 ∨ z = 33 ∨ z = 37 ∨ z = 38 ∨ z = 41 ∨ z = 42) : zMi l Gr (zc n w) 168 M_Mo_meanStatement d [.ref 105, .int (nI i)] X (fun y X' => y = nI (i + 1) ∧ X' = X) := by
  have ci : (nI i).toNatClampNeg = i := nI_clamp (by omega)
  have vi : vp_in (nI i) 12000 := vp_in_nI hi (by omega)
  refine e_Mo_meanStatement (b_Mo_meanStatement_0 vi (fun q => ?_) (fun q => ?_) (fun q => ?_) (fun q => ?_) (fun q => ?_) (fun q => ?_) (fun q => ?_) (fun q => ?_) (fun q => ?_) (fun q => ?_) (fun _ _ _ _ _ _ _ _ _ _ => mt_fin))
  all_goals
    rw [ci, hk] at q
    rcases hn with e | e | e | e | e | e | e | e | e | e | e | e | e <;> (rw [e] at q; exact absurd q (by decide))
end MSW
