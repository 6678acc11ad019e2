/-! share() and told() on both -/
theorem nI_sngL {j v : Nat} (h : j < v) (hv : v < 2 ^ 31) : nI j - nI v < 0 := by
  apply Int32.lt_iff_toInt_lt.mpr
  rw [Int32.toInt_sub, nI_toInt (show j < 2 ^ 31 by omega), nI_toInt hv]
  show ((j : Int) - v).bmod (2 ^ 32) < 0
  simp only [Int.bmod]
  split <;> omega
theorem shl_b1 {b j : Nat} (hb : b = 0 ∨ b = 1) (hj : j < 32) : (nI b).toInt64 <<< ((nI j).toInt64 &&& 63) = lN (b * 2 ^ j) := by
  rcases hb with rfl | rfl
  · exact (show ∀ j, j < 32 → (nI 0).toInt64 <<< ((nI j).toInt64 &&& 63) = lN (0 * 2 ^ j) by decide +kernel) j hj
  · exact (show ∀ j, j < 32 → (nI 1).toInt64 <<< ((nI j).toInt64 &&& 63) = lN (1 * 2 ^ j) by decide +kernel) j hj
theorem or_ll {y b j : Nat} (hy : y < 2 ^ j) (hj : j < 32) (hb : b = 0 ∨ b = 1) : lN y ||| lN (b * 2 ^ j) = lN (y + b * 2 ^ j) := by
  have h2 : 2 ^ j ≤ 2 ^ 32 := Nat.pow_le_pow_right (by omega) (by omega)
  have hb2 : b * 2 ^ j ≤ 2 ^ j := by rcases hb with rfl | rfl <;> omega
  apply Int64.toBitVec_inj.mp
  rw [Int64.toBitVec_or]
  apply BitVec.eq_of_toNat_eq
  rw [BitVec.toNat_or]
  show (y % 2 ^ 64 ||| (b * 2 ^ j) % 2 ^ 64) = (y + b * 2 ^ j) % 2 ^ 64
  rw [Nat.mod_eq_of_lt (by omega), Nat.mod_eq_of_lt (by omega), Nat.mod_eq_of_lt (by omega)]
  have h := Nat.shiftLeft_add_eq_or_of_lt hy b
  rw [Nat.shiftLeft_eq] at h
  rw [Nat.or_comm, ← h, Nat.add_comm]
theorem add_ll (a b : Nat) : lN a + lN b = lN (a + b) := (Int64.ofNat_add a b).symm
/-- the number of bits b 0, b 1, .. -/
def tdV (b : Nat → Nat) : Nat → Nat
  | 0 => 0
  | j + 1 => tdV b j + b j * 2 ^ j
theorem tdV_lt {b : Nat → Nat} (hb : ∀ j, b j = 0 ∨ b j = 1) : ∀ j, tdV b j < 2 ^ j
  | 0 => Nat.one_pos
  | j + 1 => by
    have h := tdV_lt hb j
    have h2 : b j * 2 ^ j ≤ 2 ^ j := by rcases hb j with e | e <;> rw [e] <;> omega
    show tdV b j + b j * 2 ^ j < 2 ^ (j + 1)
    rw [Nat.pow_succ]
    omega
def prB (x : Int32) : Nat := if par x = 1 then 1 else 0
theorem prB_v (x : Int32) : par x = nI (prB x) := by
  unfold prB
  rcases @par_01 x with e | e
  · rw [e, if_neg (by decide)]
    rfl
  · rw [e, if_pos rfl]
    rfl
theorem prB_01 (x : Int32) : prB x = 0 ∨ prB x = 1 := by
  unfold prB
  split
  · exact Or.inr rfl
  · exact Or.inl rfl
section TLD
variable {l : Launch} {Gr : zG} {n w d k c p : Nat} {S S' : zS} {x1 x2 x3 : Int32} {Q : Option Value → zS → Prop}
theorem w_lvl {G wb : Nat} (hG : G ≤ 40000) (hwb : wb ≤ 8192) (h4 : S.1 24 4 = nI G) (h8 : S.1 24 8 = nI wb) (hk : k < wb + G) : zMi l Gr (zc n w) 168 M_Circuit_levelOf d [.ref 56, .int (nI (2 * k))] S (fun v S' => v = (if k < wb then 0 else S.1 27 (k - wb)) ∧ S' = S) := by
  have e : nI (2 * k) >>> (1 &&& 31) = nI k := by
    rw [shr_n (by omega)]
    congr 1
    omega
  by_cases z : k < wb
  · refine e_Circuit_levelOf (b_Circuit_levelOf_0 (fun _ => b_Circuit_levelOf_21 (b_Circuit_levelOf_31 ⟨_, rfl, by rw [if_pos z], rfl⟩)) (fun y => absurd (by rw [e, h8]; exact nI_sngL z (by omega)) y))
  · have e2 : nI k - nI wb = nI (k - wb) := sub_nn (by omega)
    refine e_Circuit_levelOf (b_Circuit_levelOf_0 (fun y => absurd y (by rw [e, h8, e2]; exact nI_pos (by omega))) (fun _ => b_Circuit_levelOf_13 (fun _ => b_Circuit_levelOf_25 (by rw [e, h8, e2]; exact vp_in_nI (by omega) (by omega)) (b_Circuit_levelOf_31 ⟨_, rfl, ?_, rfl⟩)) (fun y => absurd (by rw [e, h8, e2, h4]; exact (nI_ltI (by omega) (by omega)).mpr (by omega)) y)))
    rw [e, h8, e2, nI_clamp (by omega), if_neg z]
theorem shK_2k (hk : k < 2 ^ 30) : shK c S (nI (2 * k)) = S.1 c k := by
  rw [shK_n (by omega), show 2 * k / 2 = k by omega, nI_odd, show 2 * k % 2 = 0 by omega]
  exact Int32.xor_zero
theorem ro_share (hg : ip_gk (lg_tbl, vwCl, Gr)) (hn : 2 ≤ n ∧ n ≤ 16) (hw : 1 ≤ w ∧ w ≤ 32) (h : iDl n w S) : roI l Gr n w (d + 1) M_H_share M_Mo_share [.int x1, .int x2] S := by
  have c45 : zW l Gr (zc n w) 168 M_H_share (d + 1) 45 [none, none, none] [] S (fun v S' => ∃ x, v = some (.int x) ∧ x = -1 ∧ S' = S) := b_H_share_45 ⟨_, rfl, rfl, rfl⟩
  have c0 : (S.1 0 15 = 0 ∨ x1 < 0 ∨ nI n ≤ x1) → zMi l Gr (zc n w) 168 M_H_share (d + 1) [.ref 32, .int x1, .int x2] S (fun v S' => v = -1 ∧ S' = S) := fun q => by
    refine e_H_share (b_H_share_0 hg (cl_aw0 q) (fun v S1 e => ?_))
    obtain ⟨rfl, rfl⟩ := e
    exact b_H_share_5 (fun _ => c45) (fun y => absurd rfl y)
  have m36 : zW l Gr (zc n w) 168 M_Mo_share (d + 1) 36 [none, none, none, none] [] S (fun v S' => ∃ x, v = some (.int x) ∧ x = -1 ∧ S' = S) := b_Mo_share_36 ⟨_, rfl, rfl, rfl⟩
  rcases aw_or hn.2 h x1 with (⟨h15, h124⟩ | ⟨h15, h124, z | ⟨z, z2⟩⟩) | ⟨p, hp, rfl, h15, h124, h14, h83, hC, ⟨Dm, own, av, ob, s, lg, ⟨hD, hB⟩, n1, n2, hP, hG, p1, p2, g1, g2, h12, h11⟩, hS⟩
  · exact ro_i (x := -1) (c0 (Or.inl h15)) (e_Mo_share (b_Mo_share_0 (fun _ => m36) (fun y => absurd h124 y)))
  · exact ro_i (x := -1) (c0 (Or.inr (Or.inl z))) (e_Mo_share (b_Mo_share_0 (fun _ => m36) (fun _ => b_Mo_share_7 (fun _ => m36) (fun y => absurd z y))))
  · exact ro_i (x := -1) (c0 (Or.inr (Or.inr z2))) (e_Mo_share (b_Mo_share_0 (fun _ => m36) (fun _ => b_Mo_share_7 (fun y => absurd y z) (fun _ => b_Mo_share_11 (fun _ => m36) (fun y => absurd z2 y)))))
  · have zp : ¬ nI p < 0 := nI_pos (by omega)
    have zn : ¬ nI n ≤ nI p := nI_ge (by omega) (by omega)
    have cp : (nI p).toNatClampNeg = p := nI_clamp (by omega)
    obtain ⟨G, wb, iw, f1, f2, f3, f4, f5, f6, f7, f8, f9, f10, f11, f12, f13, f14⟩ := dl_f hn.2 hw hC
    obtain ⟨G', wb', iw', vm, k1, k2, k3, k4, k5, k6, k7, k8, k9, k10⟩ := hS
    have eG : G' = G := (nI_eq (by omega) (by omega)).mp (k4.symm.trans f7)
    have eW : wb' = wb := (nI_eq (by omega) (by omega)).mp (k5.symm.trans f9)
    subst eG eW
    have hlev : ∀ g, g < G' → S.1 27 g = S.1 112 g := fun g hg' => by
      obtain ⟨g0, Dm0, iw0, no0, bo0, ⟨gg, wb0, hgg, hwb0, q4, q66, q8, q65, q5, q67, q6, -, hr⟩, -⟩ := hC
      have : gg = G' := (nI_eq (by omega) (by omega)).mp (q4.symm.trans f7)
      exact (hr g (by omega)).1.2.2.1
    have cA : ∀ {x : Int32}, zW l Gr (zc n w) 168 M_H_share (d + 1) 8 [some (.ref 32), some (.int (nI p)), some (.int x2)] [] S (fun v S' => ∃ y, v = some (.int y) ∧ y = x ∧ S' = S) → zMi l Gr (zc n w) 168 M_H_share (d + 1) [.ref 32, .int (nI p), .int x2] S (fun v S' => v = x ∧ S' = S) := fun q => by
      refine e_H_share (b_H_share_0 hg (cl_aw1 (by rw [h15]; decide) zp zn) (fun v S1 e => ?_))
      obtain ⟨rfl, rfl⟩ := e
      exact b_H_share_5 (fun y => absurd y (by decide)) (fun _ => q)
    have cM : ∀ {x : Int32}, zW l Gr (zc n w) 168 M_Mo_share (d + 1) 19 [some (.ref 105), some (.int (nI p)), some (.int x2), none] [] S (fun v S' => ∃ y, v = some (.int y) ∧ y = x ∧ S' = S) → zMi l Gr (zc n w) 168 M_Mo_share (d + 1) [.ref 105, .int (nI p), .int x2] S (fun v S' => v = x ∧ S' = S) := fun q =>
      e_Mo_share (b_Mo_share_0 (fun y => absurd y (by rw [h124]; decide)) (fun _ => b_Mo_share_7 (fun y => absurd y zp) (fun _ => b_Mo_share_11 (fun y => absurd y zn) (fun _ => q))))
    by_cases zx : x2 < 0
    · exact ro_i (x := -1) (cA (b_H_share_8 (fun _ => c45) (fun y => absurd zx y))) (cM (b_Mo_share_19 (fun _ => m36) (fun y => absurd zx y)))
    · obtain ⟨k, hkl, rfl⟩ := nI_of zx
      have cA1 : ∀ {x : Int32}, (nI (wb' + G') ≤ nI k → zW l Gr (zc n w) 168 M_H_share (d + 1) 45 [none, none, none] [] S (fun v S' => ∃ y, v = some (.int y) ∧ y = x ∧ S' = S)) → (¬ nI (wb' + G') ≤ nI k → zW l Gr (zc n w) 168 M_H_share (d + 1) 23 [some (.ref 32), some (.int (nI p)), some (.int (nI k))] [] S (fun v S' => ∃ y, v = some (.int y) ∧ y = x ∧ S' = S)) → zMi l Gr (zc n w) 168 M_H_share (d + 1) [.ref 32, .int (nI p), .int (nI k)] S (fun v S' => v = x ∧ S' = S) := fun q1 q2 => by
        refine cA (b_H_share_8 (fun y => absurd y zx) (fun _ => b_H_share_12 hg (R := fun v S' => v = nI (wb' + G') ∧ S' = S) (e_Circuit_wires (b_Circuit_wires_0 ⟨_, rfl, by rw [f9, f7, nI_add], rfl⟩)) (fun v S1 e => ?_)))
        obtain ⟨rfl, rfl⟩ := e
        exact b_H_share_20 q1 q2
      have eWG : S.1 73 65 + S.1 73 66 = nI (wb' + G') := by rw [f10, f8, nI_add]
      by_cases zk : k < wb' + G'
      · have lv : ∃ L, L ≤ 5000 ∧ (if k < wb' then 0 else S.1 27 (k - wb')) = nI L := by
          by_cases z : k < wb'
          · exact ⟨0, by omega, by rw [if_pos z]; rfl⟩
          · obtain ⟨g0, Dm0, iw0, no0, bo0, ⟨gg, wb0, hgg, hwb0, q4, q66, q8, q65, q5, q67, q6, -, hr⟩, -⟩ := hC
            have : gg = G' := (nI_eq (by omega) (by omega)).mp (q4.symm.trans f7)
            obtain ⟨-, -, -, -, L, Dx, y1, y2, y3, -⟩ := hr (k - wb') (by omega)
            exact ⟨L, by omega, by rw [if_neg z, hlev _ (by omega)]; exact y3⟩
        obtain ⟨L, hL, eL⟩ := lv
        have ba := (PIv_le hP hp).1
        have cA2 : ∀ {x : Int32}, (nI L < nI (s.2 p).1 → zW l Gr (zc n w) 168 M_H_share (d + 1) 47 [some (.ref 32), some (.int (nI p)), some (.int (nI k))] [] S (fun v S' => ∃ y, v = some (.int y) ∧ y = x ∧ S' = S)) → (¬ nI L < nI (s.2 p).1 → zW l Gr (zc n w) 168 M_H_share (d + 1) 45 [none, none, none] [] S (fun v S' => ∃ y, v = some (.int y) ∧ y = x ∧ S' = S)) → zMi l Gr (zc n w) 168 M_H_share (d + 1) [.ref 32, .int (nI p), .int (nI k)] S (fun v S' => v = x ∧ S' = S) := fun q1 q2 => by
          refine cA1 (fun y => absurd y (nI_ge (by omega) (by omega))) (fun _ => b_H_share_23 hg (by rw [nI_mul2]; exact w_lvl k1 k2 f7 f9 zk) (fun v S1 e => ?_))
          obtain ⟨rfl, rfl⟩ := e
          rw [eL]
          exact b_H_share_33 (vp_in_nI hp (by omega)) (fun y => q1 (by rw [cp, (p1.2 p hp).1] at y; exact y)) (fun y => q2 (by rw [cp, (p1.2 p hp).1] at y; exact y))
        have cM2 : ∀ {x : Int32}, (nI (s.2 p).1 ≤ nI L → zW l Gr (zc n w) 168 M_Mo_share (d + 1) 85 [none, none, none, none] [] S (fun v S' => ∃ y, v = some (.int y) ∧ y = x ∧ S' = S)) → (¬ nI (s.2 p).1 ≤ nI L → zW l Gr (zc n w) 168 M_Mo_share (d + 1) 72 [some (.ref 105), some (.int (nI p)), some (.int (nI k)), none] [] S (fun v S' => ∃ y, v = some (.int y) ∧ y = x ∧ S' = S)) → zMi l Gr (zc n w) 168 M_Mo_share (d + 1) [.ref 105, .int (nI p), .int (nI k)] S (fun v S' => v = x ∧ S' = S) := fun {x} q1 q2 => by
          have f61 : zW l Gr (zc n w) 168 M_Mo_share (d + 1) 61 [some (.ref 105), some (.int (nI p)), some (.int (nI k)), none] [.int (nI L)] S (fun v S' => ∃ y, v = some (.int y) ∧ y = x ∧ S' = S) := b_Mo_share_61 (vp_in_nI (by omega) (by omega)) (fun y => q1 (by rw [cp, (p2.2 p hp).1] at y; exact y)) (fun y => q2 (by rw [cp, (p2.2 p hp).1] at y; exact y))
          refine cM (b_Mo_share_19 (fun y => absurd y zx) (fun _ => b_Mo_share_23 (fun _ => b_Mo_share_38 (fun y => ?_) (fun y => b_Mo_share_46 ?_)) (fun y => absurd (by rw [eWG]; exact (nI_ltI (by omega) (by omega)).mpr zk) y)))
          · rw [f10] at y
            have y' : ¬ k < wb' := by have := (nI_leI (by omega) (by omega)).mp y; omega
            have e2 : nI k - S.1 73 65 = nI (k - wb') := by rw [f10]; exact sub_nn (by omega)
            refine b_Mo_share_50 (by rw [e2]; exact vp_in_nI (by omega) (by omega)) ?_
            rw [if_neg y'] at eL
            rw [e2, nI_clamp (by omega), ← hlev _ (by omega), eL]
            exact f61
          · rw [f10] at y
            have y' : k < wb' := by
              by_cases q : k < wb'
              · exact q
              · exact absurd (nI_le (by omega) (by omega)) y
            rw [if_pos y'] at eL
            rw [eL]
            exact f61
        by_cases zl : L < (s.2 p).1
        · refine ro_i (x := (S.1 64 k >>> (nI p &&& 31)) &&& 1) (cA2 (fun _ => b_H_share_47 hg (by rw [nI_mul2]; exact w_sho hw.2 (Or.inr ⟨2 * k, by omega, rfl⟩)) (fun v S1 e => ?_)) (fun y => absurd ((nI_ltI (by omega) (by omega)).mpr zl) y)) (cM2 (fun y => absurd y (nI_ge (by omega) (by omega))) (fun _ => b_Mo_share_72 (vp_in_nI (by omega) (by omega)) (b_Mo_share_86 ⟨_, rfl, ?_, rfl⟩)))
          · obtain ⟨rfl, rfl⟩ := e
            rw [shK_2k (by omega)]
            exact b_H_share_57 ⟨_, rfl, rfl, rfl⟩
          · rw [nI_clamp (by omega), k8 k zk]
        · exact ro_i (x := -1) (cA2 (fun y => absurd ((nI_ltI (by omega) (by omega)).mp y) zl) (fun _ => c45)) (cM2 (fun _ => b_Mo_share_85 (b_Mo_share_86 ⟨_, rfl, rfl, rfl⟩)) (fun y => absurd (nI_le (by omega) (by omega)) y))
      · exact ro_i (x := -1) (cA1 (fun _ => c45) (fun y => absurd (nI_le (by omega) (by omega)) y)) (cM (b_Mo_share_19 (fun y => absurd y zx) (fun _ => b_Mo_share_23 (fun y => absurd ((nI_ltI (by omega) (by omega)).mp (by rw [eWG] at y; exact y)) zk) (fun _ => m36))))
theorem vc_lt {G wb a : Nat} (hG : G ≤ 40000) (hwb : wb ≤ 8192) (h65 : S.1 73 65 = nI wb) (h66 : S.1 73 66 = nI G) (ha : a < 2 ^ 31) (h : VC S (nI a)) : a < 2 * (wb + G) := by
  rcases h.1 with y | y
  · exact absurd (nI_pos' ha) y
  · rw [shr_n ha, h65, h66] at y
    by_cases z : a / 2 < wb
    · omega
    · rw [sub_nn (show wb ≤ a / 2 by omega)] at y
      have := (nI_ltI (by omega) (by omega)).mp y
      omega
theorem ro_told (hg : ip_gk (lg_tbl, vwCl, Gr)) (hn : 2 ≤ n ∧ n ≤ 16) (hw : 1 ≤ w ∧ w ≤ 32) (h : iDl n w S) : roL l Gr n w (d + 2) M_H_told M_Mo_told [.int x1, .int x2] S := by
  have c27 : zW l Gr (zc n w) 168 M_H_told (d + 2) 27 [none, none, none, none, none, none] [] S (fun v S' => ∃ x, v = some (.long x) ∧ x = -1 ∧ S' = S) := b_H_told_27 ⟨_, rfl, rfl, rfl⟩
  have c0 : (S.1 0 15 = 0 ∨ x1 < 0 ∨ nI n ≤ x1) → zMl l Gr (zc n w) 168 M_H_told (d + 2) [.ref 32, .int x1, .int x2] S (fun v S' => v = -1 ∧ S' = S) := fun q => by
    refine e_H_told (b_H_told_0 hg (cl_aw0 q) (fun v S1 e => ?_))
    obtain ⟨rfl, rfl⟩ := e
    exact b_H_told_5 (fun _ => c27) (fun y => absurd rfl y)
  have m31 : zW l Gr (zc n w) 168 M_Mo_told (d + 2) 31 [none, none, none, none, none, none] [] S (fun v S' => ∃ x, v = some (.long x) ∧ x = -1 ∧ S' = S) := b_Mo_told_31 ⟨_, rfl, rfl, rfl⟩
  rcases aw_or hn.2 h x1 with (⟨h15, h124⟩ | ⟨h15, h124, z | ⟨z, z2⟩⟩) | ⟨p, hp, rfl, h15, h124, h14, h83, hC, ⟨Dm, own, av, ob, s, lg, ⟨hD, hB⟩, n1, n2, hP, hG, p1, p2, g1, g2, h12, h11⟩, hS⟩
  · exact ro_l (y := -1) (c0 (Or.inl h15)) (e_Mo_told (b_Mo_told_0 (fun _ => m31) (fun y => absurd h124 y)))
  · exact ro_l (y := -1) (c0 (Or.inr (Or.inl z))) (e_Mo_told (b_Mo_told_0 (fun _ => m31) (fun _ => b_Mo_told_7 (fun _ => m31) (fun y => absurd z y))))
  · exact ro_l (y := -1) (c0 (Or.inr (Or.inr z2))) (e_Mo_told (b_Mo_told_0 (fun _ => m31) (fun _ => b_Mo_told_7 (fun y => absurd y z) (fun _ => b_Mo_told_11 (fun _ => m31) (fun y => absurd z2 y)))))
  · have zp : ¬ nI p < 0 := nI_pos (by omega)
    have zn : ¬ nI n ≤ nI p := nI_ge (by omega) (by omega)
    have cp : (nI p).toNatClampNeg = p := nI_clamp (by omega)
    obtain ⟨G, wb, iw, f1, f2, f3, f4, f5, f6, f7, f8, f9, f10, f11, f12, f13, f14⟩ := dl_f hn.2 hw hC
    obtain ⟨G', wb', iw', vm, k1, k2, k3, k4, k5, k6, k7, k8, k9, k10⟩ := hS
    have eG : G' = G := (nI_eq (by omega) (by omega)).mp (k4.symm.trans f7)
    have eW : wb' = wb := (nI_eq (by omega) (by omega)).mp (k5.symm.trans f9)
    subst eG eW
    obtain ⟨g0, Dm0, iw0, no, bo, ceq, hno, ⟨o11, o69, b0, o31, ot⟩, -⟩ := hC
    have ba := (PIv_le hP hp).1
    have cA : ∀ {x : Int64}, zW l Gr (zc n w) 168 M_H_told (d + 2) 8 [some (.ref 32), some (.int (nI p)), some (.int x2), none, none, none] [] S (fun v S' => ∃ y, v = some (.long y) ∧ y = x ∧ S' = S) → zMl l Gr (zc n w) 168 M_H_told (d + 2) [.ref 32, .int (nI p), .int x2] S (fun v S' => v = x ∧ S' = S) := fun q => by
      refine e_H_told (b_H_told_0 hg (cl_aw1 (by rw [h15]; decide) zp zn) (fun v S1 e => ?_))
      obtain ⟨rfl, rfl⟩ := e
      exact b_H_told_5 (fun y => absurd y (by decide)) (fun _ => q)
    have cM : ∀ {x : Int64}, zW l Gr (zc n w) 168 M_Mo_told (d + 2) 19 [some (.ref 105), some (.int (nI p)), some (.int x2), none, none, none] [] S (fun v S' => ∃ y, v = some (.long y) ∧ y = x ∧ S' = S) → zMl l Gr (zc n w) 168 M_Mo_told (d + 2) [.ref 105, .int (nI p), .int x2] S (fun v S' => v = x ∧ S' = S) := fun q =>
      e_Mo_told (b_Mo_told_0 (fun y => absurd y (by rw [h124]; decide)) (fun _ => b_Mo_told_7 (fun y => absurd y zp) (fun _ => b_Mo_told_11 (fun y => absurd y zn) (fun _ => q))))
    have cH0 : (x2 < 0 ∨ nI no ≤ x2) → zMl l Gr (zc n w) 168 M_H_told (d + 2) [.ref 32, .int (nI p), .int x2] S (fun v S' => v = -1 ∧ S' = S) := fun q => by
      refine cA (b_H_told_8 hg (cl_has0 (Or.inr (by rw [o11]; exact q))) (fun v S1 e => ?_))
      obtain ⟨rfl, rfl⟩ := e
      exact b_H_told_13 (fun _ => c27) (fun y => absurd rfl y)
    by_cases zx : x2 < 0
    · exact ro_l (y := -1) (cH0 (Or.inl zx)) (cM (b_Mo_told_19 (fun _ => m31) (fun y => absurd zx y)))
    · obtain ⟨k, hkl, rfl⟩ := nI_of zx
      by_cases zk : k < no
      · obtain ⟨m, hm, m1, m2, m3⟩ := ot k zk
        have hm32 : m ≤ 32 := by omega
        have hbo := (o31 (k + 1) (by omega)).2
        have ck : (nI k).toNatClampNeg = k := nI_clamp (by omega)
        have gn : ¬ nI no ≤ nI k := nI_ge (by omega) (by omega)
        have cA2 : ∀ {x : Int64}, ((s.2 p).1 ≤ Dm + 1 → zW l Gr (zc n w) 168 M_H_told (d + 2) 27 [none, none, none, none, none, none] [] S (fun v S' => ∃ y, v = some (.long y) ∧ y = x ∧ S' = S)) → (¬ (s.2 p).1 ≤ Dm + 1 → zW l Gr (zc n w) 168 M_H_told (d + 2) 31 [some (.ref 32), none, some (.int (nI k)), none, none, none] [] S (fun v S' => ∃ y, v = some (.long y) ∧ y = x ∧ S' = S)) → zMl l Gr (zc n w) 168 M_H_told (d + 2) [.ref 32, .int (nI p), .int (nI k)] S (fun v S' => v = x ∧ S' = S) := fun q1 q2 => by
          refine cA (b_H_told_8 hg (cl_has1 (by rw [h14]; decide) zx (by rw [o11]; exact gn)) (fun v S1 e => ?_))
          obtain ⟨rfl, rfl⟩ := e
          refine b_H_told_13 (fun y => absurd y (by decide)) (fun _ => b_H_told_16 hg (w_isDone hn.2 hp hD n1.1 (p1.2 p hp).1 (by omega)) (fun v S2 e => ?_))
          obtain ⟨rfl, rfl⟩ := e
          by_cases z : (s.2 p).1 ≤ Dm + 1
          · rw [if_pos z]
            exact b_H_told_24 (fun y => absurd rfl y) (fun _ => q1 z)
          · rw [if_neg z]
            exact b_H_told_24 (fun _ => q2 z) (fun y => absurd y (by decide))
        have e68 : S.1 73 68 + 2 = nI (Dm + 2) := by rw [n2.1]; exact nI_add _ 2
        have cM2 : ∀ {x : Int64}, ((s.2 p).1 ≤ Dm + 1 → zW l Gr (zc n w) 168 M_Mo_told (d + 2) 50 [none, none, none, none, none, none] [] S (fun v S' => ∃ y, v = some (.long y) ∧ y = x ∧ S' = S)) → (¬ (s.2 p).1 ≤ Dm + 1 → zW l Gr (zc n w) 168 M_Mo_told (d + 2) 54 [some (.ref 105), none, some (.int (nI k)), none, none, none] [] S (fun v S' => ∃ y, v = some (.long y) ∧ y = x ∧ S' = S)) → zMl l Gr (zc n w) 168 M_Mo_told (d + 2) [.ref 105, .int (nI p), .int (nI k)] S (fun v S' => v = x ∧ S' = S) := fun q1 q2 =>
          cM (b_Mo_told_19 (fun y => absurd y zx) (fun _ => b_Mo_told_23 (fun _ => b_Mo_told_35 (vp_in_nI (by omega) (by omega)) (fun y => q2 (by rw [cp, (p2.2 p hp).1, e68] at y; have := (nI_leI (by omega) (by omega)).mp y; omega)) (fun y => q1 (by rw [cp, (p2.2 p hp).1, e68] at y; by_cases z : (s.2 p).1 ≤ Dm + 1; exact z; exact absurd (nI_le (by omega) (by omega)) y))) (fun y => absurd (by rw [o69]; exact (nI_ltI (by omega) (by omega)).mpr zk) y)))
        by_cases za : (s.2 p).1 ≤ Dm + 1
        · exact ro_l (y := -1) (cA2 (fun _ => c27) (fun y => absurd za y)) (cM2 (fun _ => b_Mo_told_50 ⟨_, rfl, rfl, rfl⟩) (fun y => absurd za y))
        · have hlit : ∀ j, j < m → (S.1 121 (32 * k + j) < 0 ∨ ∃ a, a < 2 * (wb' + G') ∧ S.1 121 (32 * k + j) = nI a) := fun j hj => by
            by_cases z : S.1 121 (32 * k + j) < 0
            · exact Or.inl z
            · obtain ⟨a, ha, e⟩ := nI_of z
              have hv := (m3 j hj).2
              rw [e] at hv
              exact Or.inr ⟨a, vc_lt k1 k2 f10 f8 ha hv, e⟩
          have hsh : ∀ j, j < m → shK 64 S (S.1 121 (32 * k + j)) = shK 151 S (S.1 121 (32 * k + j)) := fun j hj => by
            rcases hlit j hj with z | ⟨a, ha, e⟩
            · unfold shK
              rw [if_pos z, if_pos z]
            · rw [e]
              exact shK_eq (by omega) (k8 _ (by omega))
          have h01 : ∀ j, (fun j => prB (shK 64 S (S.1 121 (32 * k + j)))) j = 0 ∨ (fun j => prB (shK 64 S (S.1 121 (32 * k + j)))) j = 1 := fun j => prB_01 _
          have hlt := tdV_lt h01
          have lc : ∀ c j, j + c = m → zW l Gr (zc n w) 168 M_H_told (d + 2) 36 [some (.ref 32), none, some (.int (nI k)), some (.long (lN (tdV (fun j => prB (shK 64 S (S.1 121 (32 * k + j)))) j))), none, some (.int (nI j))] [] S (fun v S' => ∃ y, v = some (.long y) ∧ y = lN (tdV (fun j => prB (shK 64 S (S.1 121 (32 * k + j)))) m) ∧ S' = S) := fun c => by
            induction c with
            | zero =>
              intro j hj
              have ej : j = m := by omega
              refine b_H_told_36 hg (cl_bits hno o11 (fun t ht => (o31 t ht).1) zk m2) (fun v S1 e => ?_)
              obtain ⟨rfl, rfl⟩ := e
              exact b_H_told_46 (fun _ => b_H_told_82 ⟨_, rfl, by rw [ej], rfl⟩) (fun y => absurd (nI_le (by omega) (by omega)) y)
            | succ c ih =>
              intro j hj
              have hb : bo k + j < 444 * w := by
                have : (k + 1) * w ≤ 444 * w := Nat.mul_le_mul_right _ (by omega)
                omega
              refine b_H_told_36 hg (cl_bits hno o11 (fun t ht => (o31 t ht).1) zk m2) (fun v S1 e => ?_)
              obtain ⟨rfl, rfl⟩ := e
              refine b_H_told_46 (fun y => absurd y (nI_ge (by omega) (by omega))) (fun _ => b_H_told_49 hg (cl_lit hg hno o11 (fun t ht => (o31 t ht).1) zk m2 (by omega) hm32 hb hw.2) (fun v S2 e => ?_))
              obtain ⟨rfl, rfl⟩ := e
              rw [(m3 j (by omega)).1]
              refine b_H_told_64 hg (w_sho hw.2 ?_) (fun v S3 e => ?_)
              · rcases hlit j (by omega) with z | ⟨a, ha, e⟩
                · exact Or.inl z
                · exact Or.inr ⟨a, by omega, e⟩
              · obtain ⟨rfl, rfl⟩ := e
                refine b_H_told_67 hg (w_par hg) (fun v S4 e => ?_)
                obtain ⟨rfl, rfl⟩ := e
                refine b_H_told_70 ?_
                rw [prB_v, shl_b1 (prB_01 _) (by omega), or_ll (hlt j) (by omega) (prB_01 _), show nI j + Int32.ofInt 1 = nI (j + 1) from nI_add j 1]
                exact ih (j + 1) (by omega)
          have lm : ∀ c j, j + c = m → zW l Gr (zc n w) 168 M_Mo_told (d + 2) 59 [some (.ref 105), none, some (.int (nI k)), some (.long (lN (tdV (fun j => prB (shK 64 S (S.1 121 (32 * k + j)))) j))), none, some (.int (nI j))] [] S (fun v S' => ∃ y, v = some (.long y) ∧ y = lN (tdV (fun j => prB (shK 64 S (S.1 121 (32 * k + j)))) m) ∧ S' = S) := fun c => by
            induction c with
            | zero =>
              intro j hj
              have ej : j = m := by omega
              exact b_Mo_told_59 (vp_in_nI (by omega) (by omega)) (fun _ => b_Mo_told_102 ⟨_, rfl, by rw [ej], rfl⟩) (fun y => absurd (by rw [ck, m1]; exact nI_le (by omega) (by omega)) y)
            | succ c ih =>
              intro j hj
              have eI : 32 * nI k + nI j = nI (32 * k + j) := by rw [nI_mul32, nI_add]
              refine b_Mo_told_59 (vp_in_nI (by omega) (by omega)) (fun y => absurd y (by rw [ck, m1]; exact nI_ge (by omega) (by omega))) (fun _ => b_Mo_told_70 hg (by rw [eI]; exact vp_in_nI (by omega) (by omega)) (wm_sho (S := S) ?_) (fun v S3 e => ?_))
              · rw [eI, nI_clamp (by omega)]
                rcases hlit j (by omega) with z | ⟨a, ha, e⟩
                · exact Or.inl z
                · exact Or.inr ⟨a, by omega, e⟩
              · obtain ⟨rfl, rfl⟩ := e
                rw [eI, nI_clamp (by omega), ← hsh j (by omega)]
                refine b_Mo_told_87 hg (wm_pary hg) (fun v S4 e => ?_)
                obtain ⟨rfl, rfl⟩ := e
                refine b_Mo_told_90 ?_
                rw [prB_v, shl_b1 (prB_01 _) (by omega), add_ll, show nI j + Int32.ofInt 1 = nI (j + 1) from nI_add j 1]
                exact ih (j + 1) (by omega)
          exact ro_l (cA2 (fun y => absurd y za) (fun _ => b_H_told_31 (lc m 0 (by omega)))) (cM2 (fun y => absurd y za) (fun _ => b_Mo_told_54 (lm m 0 (by omega))))
      · exact ro_l (y := -1) (cH0 (Or.inr (nI_le (by omega) (by omega)))) (cM (b_Mo_told_19 (fun y => absurd y zx) (fun _ => b_Mo_told_23 (fun y => absurd (by rw [o69] at y; exact (nI_ltI (by omega) (by omega)).mp y) zk) (fun _ => m31))))
end TLD
