/-! the reference's widthOf and worthOf -/
section WOR
variable {l : Launch} {Gr : zG} {n w : Nat} {d : Nat} {T B : zS} {x1 : Int32} {X : Nat → Int32} {Q : Option Value → zS → Prop} {q : Nat}
theorem wm_width : zMi l Gr (zc n w) 168 M_Mo_widthOf d [.ref 105, .int x1] B (fun v B' => v = (if x1 = 0 then nI w else 1) ∧ B' = B) := e_Mo_widthOf (b_Mo_widthOf_0 (fun z => b_Mo_widthOf_11 (b_Mo_widthOf_12 ⟨_, rfl, by rw [if_neg z], rfl⟩)) (fun z => b_Mo_widthOf_4 (b_Mo_widthOf_12 ⟨_, rfl, by rw [if_pos z], rfl⟩)))
theorem mi_worth (hw : w ≤ 32) (hq : q < 4200) (hX : ∀ j, j < w → B.1 122 (32 * q + j) = X j) (q0 : Q (some (.long (Int64.ofNat (nvb (xbo X) w 0)))) B) : ∀ (k j : Nat), j + k = w → zW l Gr (zc n w) 168 M_Mo_worthOf d 5 [some (.ref 105), some (.int (nI q)), some (.long (Int64.ofNat (nvb (xbo X) j 0))), none, some (.int (nI j))] [] B Q
  | 0, j, h => b_Mo_worthOf_5 (fun _ => b_Mo_worthOf_47 (by rw [show j = w by omega]; exact q0)) (fun z => absurd (nI_le (a := w) (b := j) (by omega) (by omega)) z)
  | k + 1, j, h => by
    have ea : (32 : Int32) * nI q + nI j = nI (32 * q + j) := by rw [nI_mul32, nI_add]
    have e : B.1 122 (((32 : Int32) * nI q + nI j).toNatClampNeg) = X j := by rw [ea, nI_clamp (by omega)]; exact hX j (by omega)
    have go : ∀ (m : Nat) (y : Int64), m = (xbo X j).toNat → y = Int64.ofNat (m * 2 ^ j) → zW l Gr (zc n w) 168 M_Mo_worthOf d 39 [some (.ref 105), some (.int (nI q)), none, none, some (.int (nI j))] [.long y, .long (Int64.ofNat (nvb (xbo X) j 0))] B Q := fun m y hm hy => by
      refine b_Mo_worthOf_39 ?_
      have e3 := nvb_last (xb := xbo X) j 0
      rw [Nat.zero_add, ← hm] at e3
      rw [hy, ← Int64.ofNat_add, ← e3, show nI j + Int32.ofInt 1 = nI (j + 1) from nI_add j 1]
      exact mi_worth hw hq hX q0 k (j + 1) (by omega)
    refine b_Mo_worthOf_5 (fun z => absurd z (nI_ge (a := j) (b := w) (by omega) (by omega))) (fun _ => b_Mo_worthOf_14 (by rw [ea]; exact vp_in_nI (by omega) (by omega)) (fun z => b_Mo_worthOf_38 (go 0 _ ?_ ?_)) (fun z => b_Mo_worthOf_31 (go 1 _ ?_ ?_)))
    · rw [e] at z
      unfold xbo
      rw [decide_eq_false z]
      rfl
    · rw [Nat.zero_mul]
      rfl
    · rw [e] at z
      unfold xbo
      rw [decide_eq_true z]
      rfl
    · exact shl_n (m := 1) (by omega)
theorem wm_worth (hw : w ≤ 32) (hq : q < 4200) (hX : ∀ j, j < w → B.1 122 (32 * q + j) = X j) : zMl l Gr (zc n w) 168 M_Mo_worthOf d [.ref 105, .int (nI q)] B (fun v B' => v = Int64.ofNat (nvb (xbo X) w 0) ∧ B' = B) := e_Mo_worthOf (b_Mo_worthOf_0 (mi_worth hw hq hX ⟨_, rfl, rfl, rfl⟩ w 0 (by omega)))
end WOR
