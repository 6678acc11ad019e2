/-! the reference's leaves: constantZ, named, step -/
theorem shr_b {v j : Nat} (hj : j < 64) (hv : v < 2 ^ 62) : ((Int64.ofNat v) >>> ((Int32.ofNat j).toInt64 &&& 63)) &&& 1 = Int64.ofNat (v / 2 ^ j % 2) := by
  apply Int64.toBitVec_inj.mp
  rw [Int64.toBitVec_and, Int64.toBitVec_shiftRight]
  have e := sh_s ⟨j, hj⟩
  have e : ((Int32.ofNat j).toInt64 &&& 63).toBitVec.smod 64 = BitVec.ofNat 64 j := e
  rw [e]
  have m : (Int64.ofNat v).toBitVec.msb = false := by
    show (BitVec.ofNat 64 v).msb = false
    rw [BitVec.msb_eq_false_iff_two_mul_lt]
    simp
    omega
  rw [BitVec.sshiftRight', BitVec.sshiftRight_eq_of_msb_false m]
  apply BitVec.eq_of_toNat_eq
  show ((BitVec.ofNat 64 v) >>> (BitVec.ofNat 64 j).toNat &&& 1#64).toNat = (BitVec.ofNat 64 (v / 2 ^ j % 2)).toNat
  simp [Nat.shiftRight_eq_div_pow]
  rw [Nat.mod_eq_of_lt (a := v) (by omega), Nat.mod_eq_of_lt (a := j) (by omega)]
  omega
theorem cb_bit {v j : Nat} (hj : j < 32) (hv : v < 2 ^ 62) : lg_cmp (((lN v) >>> (((nI j : Int32)).toInt64 &&& 63)) &&& 1) 1 = 0 ↔ v.testBit j = true := by
  rw [show ((lN v) >>> (((nI j : Int32)).toInt64 &&& 63)) &&& 1 = Int64.ofNat (v / 2 ^ j % 2) from shr_b (by omega) hv, Nat.testBit_eq_decide_div_mod_eq]
  rcases Nat.mod_two_eq_zero_or_one (v / 2 ^ j) with q | q <;> rw [q] <;> decide
section MLF
variable {l : Launch} {Gr : zG} {n w : Nat} {d : Nat} {S A T B B0 : zS} {x y x1 x2 x4 : Int32} {X Y O F : Nat → Int32} {Q : Option Value → zS → Prop} {a b m q o i j0 r v st cd rf : Nat}
theorem mc_z (hm : m ≤ 32) (hv : v < 2 ^ 62) : ∀ (k j : Nat) (B : zS), j + k = m → MEc T B → (∀ i, i < j → B.1 125 i = bC (v.testBit i)) → (∀ B', MEc T B' → FM (fun c i => c = 125 ∧ i < 40) B B' → (∀ i, i < m → B'.1 125 i = bC (v.testBit i)) → Q none B') → zW l Gr (zc n w) 168 M_Mo_constantZ d 3 [some (.ref 105), some (.long (lN v)), none, some (.int (nI m)), some (.int (nI j))] [] B Q
  | 0, j, B, h, hK, h1, hQ => b_Mo_constantZ_3 (fun _ => b_Mo_constantZ_39 (hQ B hK FM_rfl (fun i hi => h1 i (by omega)))) (fun z => absurd (nI_le (a := m) (b := j) (by omega) (by omega)) z)
  | k + 1, j, B, h, hK, h1, hQ => by
    have go : zW l Gr (zc n w) 168 M_Mo_constantZ d 32 [some (.ref 105), some (.long (lN v)), none, some (.int (nI m)), some (.int (nI j))] [.int (bC (v.testBit j)), .int (nI j), .ref 157] B Q := by
      refine b_Mo_constantZ_32 (vp_in_nI (by omega) (by omega)) ?_
      rw [nI_clamp (by omega), show nI j + Int32.ofInt 1 = nI (j + 1) from nI_add j 1]
      refine mc_z hm hv k (j + 1) _ (by omega) (MEc_zi hK (by omega)) (fun i hi => ?_) (fun B' e1 e2 e3 => hQ B' e1 (FM_tr (FM_zi (P := fun c i => c = 125 ∧ i < 40) ⟨rfl, by omega⟩) e2 (fun _ _ z => z) (fun _ _ z => z)) e3)
      rw [zi_get]
      by_cases z : i = j
      · rw [if_pos ⟨rfl, z⟩, z]
      · rw [if_neg (by omega)]
        exact h1 i (by omega)
    refine b_Mo_constantZ_3 (fun z => absurd z (nI_ge (a := j) (b := m) (by omega) (by omega))) (fun _ => b_Mo_constantZ_9 (fun z => b_Mo_constantZ_30 ?_) (fun z => b_Mo_constantZ_26 ?_))
    · have e : v.testBit j = false := by
        cases y : v.testBit j
        · rfl
        · exact absurd ((cb_bit (by omega) hv).mpr y) z
      rw [e] at go
      exact go
    · rw [(cb_bit (by omega) hv).mp z] at go
      exact go
theorem wm_constZ (hm : m ≤ 32) (hv : v < 2 ^ 62) (hK : MEc T B) : zMv l Gr (zc n w) 168 M_Mo_constantZ d [.ref 105, .long (lN v), .int (nI m)] B (fun B' => MEc T B' ∧ FM (fun c i => c = 125 ∧ i < 40) B B' ∧ ∀ i, i < m → B'.1 125 i = bC (v.testBit i)) := e_Mo_constantZ (b_Mo_constantZ_0 (mc_z hm hv m 0 B (by omega) hK (fun i hi => absurd hi (by omega)) (fun B' e1 e2 e3 => ⟨rfl, e1, e2, e3⟩)))
theorem mn_13 (hm : m ≤ 32) (body : ∀ (j : Nat) (B : zS) (Q : Option Value → zS → Prop), j < m → FM (fun c i => c = 125 ∧ i < 40) B0 B → zW l Gr (zc n w) 168 M_Mo_named (d + 1) 154 [some (.ref 105), some (.int x1), some (.int (nI m)), some (.int (nI j)), none] [.int (F j), .int (nI j), .ref 157] B Q → zW l Gr (zc n w) 168 M_Mo_named (d + 1) 18 [some (.ref 105), some (.int x1), some (.int (nI m)), some (.int (nI j)), none] [] B Q) : ∀ (k j : Nat) (B : zS), j + k = m → MEc T B → FM (fun c i => c = 125 ∧ i < 40) B0 B → (∀ i, i < j → B.1 125 i = F i) → (∀ B', MEc T B' → FM (fun c i => c = 125 ∧ i < 40) B0 B' → (∀ i, i < m → B'.1 125 i = F i) → zW l Gr (zc n w) 168 M_Mo_named (d + 1) 161 [some (.ref 105), none, some (.int (nI m)), none, none] [] B' Q) → zW l Gr (zc n w) 168 M_Mo_named (d + 1) 13 [some (.ref 105), some (.int x1), some (.int (nI m)), some (.int (nI j)), none] [] B Q
  | 0, j, B, h, hK, hF, h1, hQ => b_Mo_named_13 (fun _ => hQ B hK hF (fun i hi => h1 i (by omega))) (fun z => absurd (nI_le (a := m) (b := j) (by omega) (by omega)) z)
  | k + 1, j, B, h, hK, hF, h1, hQ => by
    refine b_Mo_named_13 (fun z => absurd z (nI_ge (a := j) (b := m) (by omega) (by omega))) (fun _ => body j B Q (by omega) hF (b_Mo_named_154 (vp_in_nI (by omega) (by omega)) ?_))
    rw [nI_clamp (by omega), show nI j + Int32.ofInt 1 = nI (j + 1) from nI_add j 1]
    refine mn_13 hm body k (j + 1) _ (by omega) (MEc_zi hK (by omega)) (FM_tr hF (FM_zi (P := fun c i => c = 125 ∧ i < 40) ⟨rfl, by omega⟩) (fun _ _ z => z) (fun _ _ z => z)) (fun i hi => ?_) hQ
    rw [zi_get]
    by_cases z : i = j
    · rw [if_pos ⟨rfl, z⟩, z]
    · rw [if_neg (by omega)]
      exact h1 i (by omega)
theorem mn_all (hg : ip_gk (lg_tbl, vwCl, Gr)) (hw : w ≤ 32) (hw1 : 1 ≤ w) (hq : q < 4200) (hj : j0 < 12000) (hr : r ≤ 1) (hm : m = if r = 1 then 1 else w) (h105 : B.1 105 j0 = nI r) (h85 : B.1 73 85 = nI q) (body : ∀ (j : Nat) (B' : zS) (Q : Option Value → zS → Prop), j < m → FM (fun c i => c = 125 ∧ i < 40) B B' → zW l Gr (zc n w) 168 M_Mo_named (d + 1) 154 [some (.ref 105), some (.int (nI j0)), some (.int (nI m)), some (.int (nI j)), none] [.int (F j), .int (nI j), .ref 157] B' Q → zW l Gr (zc n w) 168 M_Mo_named (d + 1) 18 [some (.ref 105), some (.int (nI j0)), some (.int (nI m)), some (.int (nI j)), none] [] B' Q) : zMv l Gr (zc n w) 168 M_Mo_named (d + 1) [.ref 105, .int (nI j0)] B (fun B' => OPd B B B' q m F) := by
  have hm2 : m ≤ 32 := by rw [hm]; split <;> omega
  refine e_Mo_named (b_Mo_named_0 hg (vp_in_nI (by omega) (by omega)) wm_width (fun v B1 k1 => ?_))
  obtain ⟨ev, e1⟩ := k1
  subst e1
  have ev : v = nI m := by
    rw [ev, nI_clamp (by omega), h105, hm]
    by_cases z : r = 1
    · rw [if_pos z, if_neg (by rw [z]; decide)]
      rfl
    · rw [if_neg z, if_pos (by rw [show r = 0 by omega]; rfl)]
  rw [ev]
  refine b_Mo_named_10 (mn_13 (F := F) hm2 body m 0 B1 (by omega) MEc_rfl FM_rfl (fun i hi => absurd hi (by omega)) (fun B2 e1 e2 e3 => ?_))
  refine b_Mo_named_161 hg (wm_pushZ (X := F) hm2 hq e1 (by rw [e2.1 73 85 (by omega) (by omega) (by omega)]; exact h85) e3) (fun B4 h4 => b_Mo_named_166 ⟨rfl, h4.1, ?_, h4.2.2.1, h4.2.2.2⟩)
  exact FM_tr (P'' := PU q) e2 h4.2.1 (fun c i z => PU_a (by omega) (by omega) (by omega)) (fun c i z => by unfold PU; omega)
theorem wm_named0 (hg : ip_gk (lg_tbl, vwCl, Gr)) (hw : w ≤ 32) (hw1 : 1 ≤ w) (hq : q < 4200) (hj : j0 < 12000) (hr : r ≤ 1) (hm : m = if r = 1 then 1 else w) (h105 : B.1 105 j0 = nI r) (h85 : B.1 73 85 = nI q) (h102 : B.1 102 j0 = 1) (h103 : B.1 103 j0 = nI a) (ha : a < 256) : zMv l Gr (zc n w) 168 M_Mo_named (d + 1) [.ref 105, .int (nI j0)] B (fun B' => OPd B B B' q m (fun j => 2 * (B.1 117 a + nI j))) := mn_all hg hw hw1 hq hj hr hm h105 h85 (fun j B' Q hj' hF z => by
  have f : ∀ c, 90 ≤ c → c ≤ 110 → B'.1 c j0 = B.1 c j0 := fun c q1 q2 => hF.1 c j0 (by omega) (by omega) (by omega)
  have c0 : ((nI j0 : Int32)).toNatClampNeg = j0 := nI_clamp (by omega)
  have c1 : ((nI a : Int32)).toNatClampNeg = a := nI_clamp (by omega)
  refine b_Mo_named_18 (vp_in_nI (by omega) (by omega)) (fun y => absurd (by rw [c0, f 102 (by omega) (by omega)]; exact h102) y) (fun _ => b_Mo_named_37 (vp_in_nI (by omega) (by omega)) (by rw [c0, f 103 (by omega) (by omega), h103]; exact vp_in_nI ha (by omega)) ?_)
  rw [c0, f 103 (by omega) (by omega), h103, c1, hF.1 117 a (by omega) (by omega) (by omega)]
  exact z)
theorem wm_named1 (hg : ip_gk (lg_tbl, vwCl, Gr)) (hw : w ≤ 32) (hw1 : 1 ≤ w) (hq : q < 4200) (hj : j0 < 12000) (hr : r ≤ 1) (hm : m = if r = 1 then 1 else w) (h105 : B.1 105 j0 = nI r) (h85 : B.1 73 85 = nI q) (h102 : B.1 102 j0 = 2) (h103 : B.1 103 j0 = nI a) (ha : a < 256) : zMv l Gr (zc n w) 168 M_Mo_named (d + 1) [.ref 105, .int (nI j0)] B (fun B' => OPd B B B' q m (fun j => B.1 132 (32 * a + j))) := mn_all hg hw hw1 hq hj hr hm h105 h85 (fun j B' Q hj' hF z => by
  have hm2 : m ≤ 32 := by rw [hm]; split <;> omega
  have f : ∀ c, 90 ≤ c → c ≤ 110 → B'.1 c j0 = B.1 c j0 := fun c q1 q2 => hF.1 c j0 (by omega) (by omega) (by omega)
  have c0 : ((nI j0 : Int32)).toNatClampNeg = j0 := nI_clamp (by omega)
  have e : 32 * nI a + nI j = nI (32 * a + j) := by rw [nI_mul32, nI_add]
  refine b_Mo_named_18 (vp_in_nI (by omega) (by omega)) (fun _ => b_Mo_named_55 (fun y => absurd (by rw [c0, f 102 (by omega) (by omega)]; exact h102) y) (fun _ => b_Mo_named_61 (vp_in_nI (by omega) (by omega)) ?_ ?_)) (fun y => absurd y (by rw [c0, f 102 (by omega) (by omega), h102]; decide))
  · rw [c0, f 103 (by omega) (by omega), h103, e]
    exact vp_in_nI (by omega) (by omega)
  · rw [c0, f 103 (by omega) (by omega), h103, e, nI_clamp (by omega), hF.1 132 _ (by omega) (by omega) (by omega)]
    exact z)
theorem wm_named2 (hg : ip_gk (lg_tbl, vwCl, Gr)) (hw : w ≤ 32) (hw1 : 1 ≤ w) (hq : q < 4200) (hj : j0 < 12000) (hr : r ≤ 1) (hm : m = if r = 1 then 1 else w) (h105 : B.1 105 j0 = nI r) (h85 : B.1 73 85 = nI q) (h102 : B.1 102 j0 = 3) (h103 : B.1 103 j0 = nI a) (ha : a < 12000) (hv : v < 2 ^ 62) (h141 : B.2 141 a = lN v) : zMv l Gr (zc n w) 168 M_Mo_named (d + 1) [.ref 105, .int (nI j0)] B (fun B' => OPd B B B' q m (fun j => bC (v.testBit j))) := mn_all hg hw hw1 hq hj hr hm h105 h85 (fun j B' Q hj' hF z => by
  have hm2 : m ≤ 32 := by rw [hm]; split <;> omega
  have f : ∀ c, 90 ≤ c → c ≤ 110 → B'.1 c j0 = B.1 c j0 := fun c q1 q2 => hF.1 c j0 (by omega) (by omega) (by omega)
  have c0 : ((nI j0 : Int32)).toNatClampNeg = j0 := nI_clamp (by omega)
  have c1 : ((nI a : Int32)).toNatClampNeg = a := nI_clamp (by omega)
  refine b_Mo_named_18 (vp_in_nI (by omega) (by omega)) (fun _ => b_Mo_named_55 (fun _ => b_Mo_named_80 (fun y => absurd (by rw [c0, f 102 (by omega) (by omega)]; exact h102) y) (fun _ => b_Mo_named_86 (vp_in_nI (by omega) (by omega)) ?_ (fun y => b_Mo_named_110 ?_) (fun y => b_Mo_named_106 ?_))) (fun y => absurd y (by rw [c0, f 102 (by omega) (by omega), h102]; decide))) (fun y => absurd y (by rw [c0, f 102 (by omega) (by omega), h102]; decide))
  · rw [c0, f 103 (by omega) (by omega), h103]
    exact vp_in_nI (by omega) (by omega)
  · rw [c0, f 103 (by omega) (by omega), h103, c1, hF.2 141 a, h141, cb_bit (by omega) hv] at y
    rw [show v.testBit j = false by cases u : v.testBit j; rfl; exact absurd u y] at z
    exact z
  · rw [c0, f 103 (by omega) (by omega), h103, c1, hF.2 141 a, h141, cb_bit (by omega) hv] at y
    rw [y] at z
    exact z)
theorem wm_named3 (hg : ip_gk (lg_tbl, vwCl, Gr)) (hw : w ≤ 32) (hw1 : 1 ≤ w) (hq : q < 4200) (hj : j0 < 12000) (hr : r ≤ 1) (hm : m = if r = 1 then 1 else w) (h105 : B.1 105 j0 = nI r) (h85 : B.1 73 85 = nI q) (h102 : B.1 102 j0 = 4) (h103 : B.1 103 j0 = nI a) (h110 : B.1 73 110 = nI (cd + 1)) (hcd : cd < 400) (h144 : B.1 144 cd = nI rf) (ha : rf + a < 4200) : zMv l Gr (zc n w) 168 M_Mo_named (d + 1) [.ref 105, .int (nI j0)] B (fun B' => OPd B B B' q m (fun j => B.1 122 (32 * (rf + a) + j))) := mn_all hg hw hw1 hq hj hr hm h105 h85 (fun j B' Q hj' hF z => by
  have hm2 : m ≤ 32 := by rw [hm]; split <;> omega
  have f : ∀ c, 90 ≤ c → c ≤ 110 → B'.1 c j0 = B.1 c j0 := fun c q1 q2 => hF.1 c j0 (by omega) (by omega) (by omega)
  have c0 : ((nI j0 : Int32)).toNatClampNeg = j0 := nI_clamp (by omega)
  have f110 : B'.1 73 110 = nI (cd + 1) := (hF.1 73 110 (by omega) (by omega) (by omega)).trans h110
  have cc : ((nI cd : Int32)).toNatClampNeg = cd := nI_clamp (by omega)
  have f144 : B'.1 144 cd = nI rf := (hF.1 144 cd (by omega) (by omega) (by omega)).trans h144
  have e : 32 * (nI rf + nI a) + nI j = nI (32 * (rf + a) + j) := by rw [nI_add, nI_mul32, nI_add]
  refine b_Mo_named_18 (vp_in_nI (by omega) (by omega)) (fun _ => b_Mo_named_55 (fun _ => b_Mo_named_80 (fun _ => b_Mo_named_115 (fun y => absurd y (by rw [f110]; exact nI_nle (by omega) (by omega))) (fun _ => b_Mo_named_132 ?_)) (fun y => absurd y (by rw [c0, f 102 (by omega) (by omega), h102]; decide))) (fun y => absurd y (by rw [c0, f 102 (by omega) (by omega), h102]; decide))) (fun y => absurd y (by rw [c0, f 102 (by omega) (by omega), h102]; decide))
  rw [f110, nI_pred]
  refine b_Mo_named_142 (vp_in_nI (by omega) (by omega)) (vp_in_nI (by omega) (by omega)) ?_ ?_
  · rw [c0, f 103 (by omega) (by omega), h103, cc, f144, e]
    exact vp_in_nI (by omega) (by omega)
  · rw [c0, f 103 (by omega) (by omega), h103, cc, f144, e, nI_clamp (by omega), hF.1 122 _ (by omega) (by omega) (by omega)]
    exact z)
theorem wm_step (hst : st < 100000) (h70 : B.1 73 70 = nI st) : zMv l Gr (zc n w) 168 M_Mo_step (d + 1) [.ref 105] B (fun B' => B' = zi B 73 70 (nI (st + 1))) :=
  e_Mo_step (b_Mo_step_0 (fun _ => b_Mo_step_20 ⟨rfl, by rw [h70, nI_1]⟩) (fun z => absurd ((nI_eq (a := st) (b := 100000) (by omega) (by omega)).mp (h70.symm.trans z)) (by omega)))
end MLF
section MSX
variable {l : Launch} {Gr : zG} {n w : Nat} {d : Nat} {B : zS}
theorem wm_stepX (hg : ip_gk (lg_tbl, vwCl, Gr)) (hG : GM B) (h7 : B.1 73 7 = 0) (h70 : B.1 73 70 = nI 100000) : zMv l Gr (zc n w) 168 M_Mo_step (d + 1) [.ref 105] B (fun B' => B' = zi (mF B 8 (mPla B)) 73 70 (nI 100001)) :=
  e_Mo_step (b_Mo_step_0 (fun z => absurd h70 z) (fun _ => b_Mo_step_10 hg (wm_pla hG) (fun v B1 k => by
    rw [k.1, k.2]
    refine b_Mo_step_17 hg (wm_fail h7) (fun B2 e => ?_)
    rw [e]
    refine b_Mo_step_20 ⟨rfl, ?_⟩
    rw [show (mF B 8 (mPla B)).1 73 70 = B.1 73 70 by unfold mF; rw [zi_k (by decide), zi_k (by decide)], h70]
    rfl)))
end MSX
