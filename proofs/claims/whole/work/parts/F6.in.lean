/-! input(), give(), seed() -/
theorem se_mod (x : BitVec 32) {k : Nat} (hk : k ≤ 32) : (x.signExtend 64).toNat % 2 ^ k = x.toNat % 2 ^ k := by
  have e : 2 ^ 64 - 2 ^ 32 = 2 ^ k * (2 ^ (32 - k) * (2 ^ 32 - 1)) := by
    rw [← Nat.mul_assoc, ← Nat.pow_add, show k + (32 - k) = 32 by omega]
  have e2 : (x.setWidth 64).toNat = x.toNat := by
    rw [BitVec.toNat_setWidth]
    exact Nat.mod_eq_of_lt (by have := x.isLt; omega)
  rw [BitVec.toNat_signExtend, e2]
  split
  · rw [e, Nat.add_mul_mod_self_left]
  · rfl
theorem and_l (x : Int32) {k : Nat} (hk : k ≤ 32) : x.toInt64 &&& lN (2 ^ k - 1) = lN (x.toBitVec.toNat % 2 ^ k) := by
  have h2 : 2 ^ k ≤ 2 ^ 32 := Nat.pow_le_pow_right (by omega) hk
  have h0 : 0 < 2 ^ k := Nat.two_pow_pos k
  have h3 : x.toBitVec.toNat % 2 ^ k < 2 ^ k := Nat.mod_lt _ h0
  apply Int64.toBitVec_inj.mp
  rw [Int64.toBitVec_and]
  apply BitVec.eq_of_toNat_eq
  rw [BitVec.toNat_and]
  show (x.toBitVec.signExtend 64).toNat &&& ((2 ^ k - 1) % 2 ^ 64) = (x.toBitVec.toNat % 2 ^ k) % 2 ^ 64
  rw [Nat.mod_eq_of_lt (show 2 ^ k - 1 < 2 ^ 64 by omega), Nat.and_two_pow_sub_one_eq_mod, se_mod _ hk, Nat.mod_eq_of_lt (show x.toBitVec.toNat % 2 ^ k < 2 ^ 64 by omega)]
theorem and_i (x : Int32) {k : Nat} (hk : k ≤ 32) : x &&& nI (2 ^ k - 1) = nI (x.toBitVec.toNat % 2 ^ k) := by
  have h2 : 2 ^ k ≤ 2 ^ 32 := Nat.pow_le_pow_right (by omega) hk
  have h0 : 0 < 2 ^ k := Nat.two_pow_pos k
  have h3 : x.toBitVec.toNat % 2 ^ k < 2 ^ k := Nat.mod_lt _ h0
  apply Int32.toBitVec_inj.mp
  rw [Int32.toBitVec_and]
  apply BitVec.eq_of_toNat_eq
  rw [BitVec.toNat_and]
  show x.toBitVec.toNat &&& ((2 ^ k - 1) % 2 ^ 32) = (x.toBitVec.toNat % 2 ^ k) % 2 ^ 32
  rw [Nat.mod_eq_of_lt (show 2 ^ k - 1 < 2 ^ 32 by omega), Nat.and_two_pow_sub_one_eq_mod, Nat.mod_eq_of_lt (show x.toBitVec.toNat % 2 ^ k < 2 ^ 32 by omega)]
theorem giv_i (x : Int32) {k : Nat} (h1 : 1 ≤ k) (hk : k ≤ 32) : x &&& ((((-1) : Int32)).toUInt32 >>> ((((32 - nI k) : Int32)).toUInt32 &&& Int32.toUInt32 31)).toInt32 = nI (x.toBitVec.toNat % 2 ^ k) := by
  have h : ((((-1) : Int32)).toUInt32 >>> ((((32 - nI k) : Int32)).toUInt32 &&& Int32.toUInt32 31)).toInt32 = nI (2 ^ k - 1) := (show ∀ k, k < 33 → 1 ≤ k → ((((-1) : Int32)).toUInt32 >>> ((((32 - nI k) : Int32)).toUInt32 &&& Int32.toUInt32 31)).toInt32 = nI (2 ^ k - 1) by decide +kernel) k (by omega) h1
  rw [h]
  exact and_i x hk
theorem giv_l (x : Int32) {k : Nat} (hk : k ≤ 32) : x.toInt64 &&& ((1 <<< ((nI k).toInt64 &&& 63)) - 1) = lN (x.toBitVec.toNat % 2 ^ k) := by
  have h : ((1 : Int64) <<< ((nI k).toInt64 &&& 63)) - 1 = lN (2 ^ k - 1) := (show ∀ w, w < 33 → ((1 : Int64) <<< ((nI w).toInt64 &&& 63)) - 1 = lN (2 ^ w - 1) by decide +kernel) k (by omega)
  rw [h]
  exact and_l x hk
theorem rd_l {bt : Nat} {x : Int32} {v : Int64} (hb : bt ≤ 32) (h : IVa bt x v) : x.toInt64 &&& 4294967295 = v := by
  obtain ⟨m, hm, rfl, rfl⟩ := h
  have h2 : 2 ^ bt ≤ 2 ^ 32 := Nat.pow_le_pow_right (by omega) hb
  have e := and_l (nI m) (k := 32) (by omega)
  have e2 : (nI m).toBitVec.toNat % 2 ^ 32 = m := by
    show m % 2 ^ 32 % 2 ^ 32 = m
    omega
  rw [e2] at e
  exact e
section INP
variable {l : Launch} {Gr : zG} {n w d : Nat} {S S' : zS} {x1 x2 x : Int32}
theorem ro_input (hw : w ≤ 32) (h : iBt n w S) : roL l Gr n w d M_H_input M_Mo_input [.int x1, .int x2] S := by
  have c15 : zW l Gr (zc n w) 168 M_H_input d 15 [none, none, none] [] S (fun v S' => ∃ x, v = some (.long x) ∧ x = -1 ∧ S' = S) := b_H_input_15 ⟨_, rfl, rfl, rfl⟩
  have m28 : zW l Gr (zc n w) 168 M_Mo_input d 28 [none, none, none] [] S (fun v S' => ∃ x, v = some (.long x) ∧ x = -1 ∧ S' = S) := b_Mo_input_28 ⟨_, rfl, rfl, rfl⟩
  rcases h with ⟨h14, h83, h6, -⟩ | ⟨h14, h83, g, Dm, iw, no, bo, -, -, -, -, ⟨hiw, h6, -, h75, -, hin, -⟩, -⟩
  · exact ro_l (y := -1) (e_H_input (b_H_input_0 (fun _ => c15) (fun z => b_H_input_4 (fun y => absurd (by rw [h6] at y; exact y) z) (fun _ => c15)))) (e_Mo_input (b_Mo_input_0 (fun _ => m28) (fun z => absurd h83 z)))
  · have n83 : ¬ S.1 73 83 = 0 := by rw [h83]; decide
    by_cases z1 : x1 < 0
    · exact ro_l (y := -1) (e_H_input (b_H_input_0 (fun _ => c15) (fun z => absurd z1 z))) (e_Mo_input (b_Mo_input_0 (fun _ => m28) (fun _ => b_Mo_input_7 (fun _ => m28) (fun z => absurd z1 z))))
    · obtain ⟨k, hk, rfl⟩ := nI_of z1
      by_cases zk : k < iw
      · obtain ⟨o, bt, i1, i2, i3, i4, i5, i6, i7, i8, i9⟩ := hin k zk
        have v : vp_in (nI k) 256 := vp_in_nI (by omega) (by omega)
        have ck : (nI k).toNatClampNeg = k := nI_clamp (by omega)
        have hbt : bt ≤ 32 := by omega
        have cA : ∀ {y : Int64}, zW l Gr (zc n w) 168 M_H_input d 19 [some (.ref 32), some (.int (nI k)), some (.int x2)] [] S (fun v S' => ∃ x, v = some (.long x) ∧ x = y ∧ S' = S) → zMl l Gr (zc n w) 168 M_H_input d [.ref 32, .int (nI k), .int x2] S (fun v S' => v = y ∧ S' = S) := fun h =>
          e_H_input (b_H_input_0 (fun z => absurd z z1) (fun _ => b_H_input_4 (fun _ => h) (fun z => absurd (by rw [h6]; exact (nI_ltI hk (by omega)).mpr zk) z)))
        have cM : ∀ {y : Int64}, zW l Gr (zc n w) 168 M_Mo_input d 19 [some (.ref 105), some (.int (nI k)), some (.int x2)] [] S (fun v S' => ∃ x, v = some (.long x) ∧ x = y ∧ S' = S) → zMl l Gr (zc n w) 168 M_Mo_input d [.ref 105, .int (nI k), .int x2] S (fun v S' => v = y ∧ S' = S) := fun h =>
          e_Mo_input (b_Mo_input_0 (fun z => absurd z n83) (fun _ => b_Mo_input_7 (fun z => absurd z z1) (fun _ => b_Mo_input_11 (fun z => absurd z (by rw [h75]; exact nI_ge (by omega) (by omega))) (fun _ => h))))
        by_cases e0 : x2 = 0
        · subst e0
          refine ro_l (y := (nI o).toInt64) (cA (b_H_input_19 (fun _ => b_H_input_48 v ⟨_, rfl, by rw [ck, i3], rfl⟩) (fun z => absurd z (by decide)) (fun z => absurd z (by decide)) (fun z => absurd rfl z))) (cM (b_Mo_input_19 (fun z => absurd z (by decide)) (fun _ => b_Mo_input_23 (fun _ => b_Mo_input_32 (fun z => absurd rfl z) (fun _ => b_Mo_input_36 v (b_Mo_input_67 ⟨_, rfl, by rw [ck, i6], rfl⟩))) (fun z => absurd (by decide) z))))
        · by_cases e1 : x2 = 1
          · subst e1
            refine ro_l (y := (nI bt).toInt64) (cA (b_H_input_19 (fun z => absurd z (by decide)) (fun _ => b_H_input_59 v ⟨_, rfl, by rw [ck, i4], rfl⟩) (fun z => absurd z (by decide)) (fun _ z => absurd rfl z))) (cM (b_Mo_input_19 (fun z => absurd z (by decide)) (fun _ => b_Mo_input_23 (fun _ => b_Mo_input_32 (fun _ => b_Mo_input_46 (fun z => absurd rfl z) (fun _ => b_Mo_input_51 v (b_Mo_input_67 ⟨_, rfl, by rw [ck, i7], rfl⟩))) (fun z => absurd z (by decide))) (fun z => absurd (by decide) z))))
          · by_cases e2 : x2 = 2
            · subst e2
              refine ro_l (y := S.2 118 k) (cA (b_H_input_19 (fun z => absurd z (by decide)) (fun z => absurd z (by decide)) (fun _ => b_H_input_70 v ⟨_, rfl, by rw [ck]; exact rd_l hbt i9, rfl⟩) (fun _ _ z => absurd rfl z))) (cM (b_Mo_input_19 (fun z => absurd z (by decide)) (fun _ => b_Mo_input_23 (fun _ => b_Mo_input_32 (fun _ => b_Mo_input_46 (fun _ => b_Mo_input_61 v (b_Mo_input_67 ⟨_, rfl, by rw [ck], rfl⟩)) (fun z => absurd z (by decide))) (fun z => absurd z (by decide))) (fun z => absurd (by decide) z))))
            · refine ro_l (y := -1) (cA (b_H_input_19 (fun z => absurd z e0) (fun z => absurd z e1) (fun z => absurd z e2) (fun _ _ _ => b_H_input_85 ⟨_, rfl, rfl, rfl⟩))) (cM (b_Mo_input_19 (fun _ => m28) (fun z => b_Mo_input_23 (fun y => ?_) (fun _ => m28))))
              obtain ⟨j, hj, rfl⟩ := nI_of2 (M := nI 2) (n := 2) (nI_toInt (by omega)) z y
              exfalso
              match j, hj with
              | 0, _ => exact e0 rfl
              | 1, _ => exact e1 rfl
              | 2, _ => exact e2 rfl
      · exact ro_l (y := -1) (e_H_input (b_H_input_0 (fun _ => c15) (fun _ => b_H_input_4 (fun y => absurd (by rw [h6] at y; exact (nI_ltI hk (by omega)).mp y) zk) (fun _ => c15)))) (e_Mo_input (b_Mo_input_0 (fun _ => m28) (fun _ => b_Mo_input_7 (fun _ => m28) (fun _ => b_Mo_input_11 (fun _ => m28) (fun z => absurd (by rw [h75]; exact nI_le (by omega) (by omega)) z)))))
/-- a circuit stays as long as its cells do -/
theorem iCk_fr (h : iCk n w S) (hf : ∀ c k, (17 ≤ c ∧ c ≤ 20) ∨ c = 23 ∨ (24 ≤ c ∧ c ≤ 32) ∨ (c = 45 ∧ k = 18) ∨ (c = 73 ∧ ((65 ≤ k ∧ k ≤ 70) ∨ k = 7 ∨ k = 75 ∨ k = 145)) ∨ (111 ≤ c ∧ c ≤ 117) ∨ c = 120 ∨ c = 121 ∨ c = 155 ∨ c = 156 ∨ c = 167 → S'.1 c k = S.1 c k) (hv : ∀ a bt, (bt = 1 ∨ bt = w) → S.1 19 a = nI bt → IVa bt (S.1 21 a) (S.2 118 a) → IVa bt (S'.1 21 a) (S'.2 118 a)) : iCk n w S' := by
  obtain ⟨g, Dm, iw, no, bo, ceq, h9, ⟨o11, o69, b0, o31, ot⟩, h145, ⟨k1, k2, k3, k4, k5, k6, k7⟩, hst, gl, ml, l1, l2, l3⟩ := h
  have eW : ∀ m, iW S' m = iW S m := fun m => iW_cong m (fun a _ => hf 19 a (by omega))
  have eQ : ∀ y m, iQ S' y m = iQ S y m := iQ_cong2 (fun a => ⟨hf 18 a (by omega), hf 19 a (by omega)⟩)
  have eA : gAn S' = gAn S := funext fun k => by unfold gAn; rw [hf 111 k (by omega)]
  have eL : gLv S' = gLv S := funext fun k => by unfold gLv; rw [hf 112 k (by omega)]
  have hKE : KEc S S' := ⟨fun k q1 q2 => hf 24 k (by omega), fun c k q1 q2 => hf c k (by omega)⟩
  have hME : MEl S S' := ⟨fun k q => hf 73 k (by omega), fun c k q => hf c k (by omega)⟩
  refine ⟨g, Dm, iw, no, bo, CEQ_El ceq hKE hME, h9, ⟨(hf 24 11 (by omega)).trans o11, (hf 73 69 (by omega)).trans o69, b0, fun t ht => ⟨(hf 31 t (by omega)).trans (o31 t ht).1, (o31 t ht).2⟩, fun t ht => ?_⟩, (hf 73 145 (by omega)).trans h145, ⟨k1, (hf 17 6 (by omega)).trans k2, by rw [hf 17 7 (by omega), eW]; exact k3, (hf 73 75 (by omega)).trans k4, by rw [hf 73 65 (by omega), eW]; exact k5, fun a ha => ?_, fun y hy => ?_⟩, by rw [hf 45 18 (by omega), hf 73 70 (by omega)]; exact hst, ?_⟩
  · obtain ⟨m, m1, m2, m3, m4⟩ := ot t ht
    refine ⟨m, m1, (hf 120 t (by omega)).trans m2, m3, fun y hy => ?_⟩
    rw [hf 32 _ (by omega), hf 121 _ (by omega)]
    exact ⟨(m4 y hy).1, VC_El hME (m4 y hy).2⟩
  · obtain ⟨o, bt, i1, i2, i3, i4, i5, i6, i7, i8, i9⟩ := k6 a ha
    exact ⟨o, bt, i1, i2, (hf 18 a (by omega)).trans i3, (hf 19 a (by omega)).trans i4, by rw [hf 20 a (by omega), eW]; exact i5, (hf 115 a (by omega)).trans i6, (hf 116 a (by omega)).trans i7, by rw [hf 117 a (by omega), eW]; exact i8, hv a bt i2 i4 i9⟩
  · rw [hf 23 y (by omega), hf 167 y (by omega), eQ]
    exact k7 y hy
  · unfold LVk
    rw [eA, eL]
    refine ⟨⟨(hf 24 4 (by omega)).trans gl.1, gl.2.1, fun k hk => ?_⟩, ⟨(hf 73 66 (by omega)).trans ml.1, ml.2.1, (hf 73 68 (by omega)).trans ml.2.2.1, ml.2.2.2.1, fun k hk => ?_⟩, fun m q1 q2 => ?_, fun m q1 q2 => ?_, fun x q1 q2 => ?_⟩
    · rw [hf 27 k (by omega), hf 28 k (by omega)]
      exact gl.2.2 k hk
    · rw [hf 112 k (by omega), hf 111 k (by omega)]
      exact ml.2.2.2.2 k hk
    · rw [hf 30 m (by omega)]
      exact l1 m q1 q2
    · rw [hf 155 m (by omega)]
      exact l2 m q1 q2
    · rw [hf 29 _ (by omega), hf 156 _ (by omega)]
      exact l3 x q1 q2
end INP
