/-! for: the reference's instructions -/
section FOM
variable {l : Launch} {Gr : zG} {n w : Nat} {d : Nat} {S A A0 T B B0 : zS} {X Y : Nat → Int32} {Q : Option Value → zS → Prop} {a b m q i j e r v z k t h p jl v1 v2 js nv : Nat}
theorem ms_39 (hg : ip_gk (lg_tbl, vwCl, Gr)) (hw : w ≤ 32) (hj : j < 12000) (hq : q + 1 < 4200) (h78 : B.1 78 j = 39) (h80 : B.1 80 j = nI js) (h81 : B.1 81 j = nI p) (h97 : B.1 73 97 = nI nv) (h85 : B.1 73 85 = nI (q + 2)) (hX : ∀ x, x < w → B.1 122 (32 * q + x) = X x) (hY : ∀ x, x < w → B.1 122 (32 * (q + 1) + x) = Y x) (e1 : v1 = nvb (xbo X) w 0) (e2 : v2 = nvb (xbo Y) w 0) : zMi l Gr (zc n w) 168 M_Mo_statement (d + 6) [.ref 105, .int (nI j)] B (fun v B' => (v1 ≤ v2 ∧ v2 - v1 < 256 → v = nI (j + 1) ∧ B' = zi (zj (zj (zi B 73 85 (nI q)) 141 j (lN v1)) 142 j (lN v2)) 143 j (nI nv)) ∧ (v2 < v1 → v = nI (js + 1) ∧ B' = zi B 73 85 (nI q)) ∧ (v1 ≤ v2 ∧ 256 ≤ v2 - v1 → v = nI (j + 1) ∧ B' = mT (zi B 73 85 (nI q)) 7 (nI p))) := by
  have cj : ((nI j : Int32)).toNatClampNeg = j := nI_clamp (by omega)
  have b1 : v1 < 2 ^ 62 := by rw [e1]; exact nvb_62 hw
  have b2 : v2 < 2 ^ 62 := by rw [e2]; exact nvb_62 hw
  have e85 : B.1 73 85 - 1 = nI (q + 1) := by rw [h85, nI_pred]
  have e85' : B.1 73 85 - 2 = nI q := by rw [h85, show (2 : Int32) = nI 2 from rfl, nI_subb]
  refine e_Mo_statement (ms_0 (z := 39) hj h78 (by omega) (by omega) (by omega) (by omega) (by omega) (by omega) (by omega) (by omega) (by omega) (by omega) (by omega) (by omega) (fun _ => b_Mo_statement_606 hg (R := fun v B' => v = lN v2 ∧ B' = B) (by rw [e85, e2]; exact wm_worth hw (by omega) hY) (fun v B1 k1 => ?_)) (by omega) (by omega) (by omega))
  rw [k1.1, k1.2]
  refine b_Mo_statement_616 hg (R := fun v B' => v = lN v1 ∧ B' = B) (by rw [e85', e1]; exact wm_worth hw (by omega) hX) (fun v B2 k2 => ?_)
  rw [k2.1, k2.2]
  refine b_Mo_statement_627 (fun y => ?_) (fun y => ?_)
  · rw [cm_le b1 b2] at y
    rw [e85']
    refine b_Mo_statement_655 (fun y2 => ?_) (fun y2 => ?_)
    · rw [lN_sub y, show (255 : Int64) = lN 255 from rfl, cm_le (by omega) (by omega)] at y2
      refine b_Mo_statement_681 (vp_in_nI hj (by omega)) ?_
      rw [cj]
      show zW l Gr (zc n w) 168 M_Mo_statement (d + 6) 756 _ [] (zi (zj (zj (zi B 73 85 (nI q)) 141 j (lN v1)) 142 j (lN v2)) 143 j ((zi B 73 85 (nI q)).1 73 97)) _
      rw [zi_k (by decide), h97]
      exact b_Mo_statement_756 ⟨_, rfl, fun _ => ⟨by rw [nI_1], rfl⟩, fun q => absurd q (by omega), fun q => absurd q (by omega)⟩
    · rw [lN_sub y, show (255 : Int64) = lN 255 from rfl, cm_le (by omega) (by omega)] at y2
      refine b_Mo_statement_666 hg (vp_in_nI hj (by omega)) wm_fl (fun B3 k3 => b_Mo_statement_678 ?_)
      rw [k3, cj, zi_c (by decide), h81]
      exact b_Mo_statement_756 ⟨_, rfl, fun q => absurd q (by omega), fun q => absurd q (by omega), fun _ => ⟨by rw [nI_1], rfl⟩⟩
  · rw [cm_le b1 b2] at y
    rw [e85']
    refine b_Mo_statement_646 (vp_in_nI hj (by omega)) ⟨_, rfl, fun q => absurd q.1 y, fun _ => ⟨?_, rfl⟩, fun q => absurd q.1 y⟩
    rw [cj, zi_c (by decide), h80, nI_1]
theorem ms_40 (hj : j < 12000) (hl : jl < 12000) (h78 : B.1 78 j = 40) (h79 : B.1 79 j = nI jl) (h143 : B.1 143 jl = nI nv) (h141 : B.2 141 jl = lN v1) (h142 : B.2 142 jl = lN v2) (b1 : v1 < 2 ^ 60) (b2 : v2 < 2 ^ 60) : zMi l Gr (zc n w) 168 M_Mo_statement (d + 6) [.ref 105, .int (nI j)] B (fun v B' => (v1 < v2 → v = nI (jl + 1) ∧ B' = zj (zi B 73 97 (nI nv)) 141 jl (lN (v1 + 1))) ∧ (v2 ≤ v1 → v = nI (j + 1) ∧ B' = zi B 73 97 (nI nv))) := by
  have cj : ((nI j : Int32)).toNatClampNeg = j := nI_clamp (by omega)
  have cl : ((nI jl : Int32)).toNatClampNeg = jl := nI_clamp (by omega)
  refine e_Mo_statement (ms_0 (z := 40) hj h78 (by omega) (by omega) (by omega) (by omega) (by omega) (by omega) (by omega) (by omega) (by omega) (by omega) (by omega) (by omega) (by omega) (fun _ => b_Mo_statement_709 (vp_in_nI hj (by omega)) (by rw [cj, h79]; exact vp_in_nI hl (by omega)) (fun y => ?_) (fun y => ?_)) (by omega) (by omega))
  · rw [cj, h79, cl, h141, h142, cm_ge (by omega) (by omega)] at y
    rw [cj, h79, cl, h143]
    exact b_Mo_statement_756 ⟨_, rfl, fun q => absurd q (by omega), fun _ => ⟨by rw [nI_1], rfl⟩⟩
  · rw [cj, h79, cl, h141, h142, cm_ge (by omega) (by omega)] at y
    rw [cj, h79, cl, h143]
    refine b_Mo_statement_742 (vp_in_nI hl (by omega)) ⟨_, rfl, fun _ => ⟨by rw [nI_1], ?_⟩, fun q => absurd q y⟩
    rw [cl]
    show zj (zi B 73 97 (nI nv)) 141 jl (B.2 141 jl + 1) = _
    rw [h141, lN_1]
end FOM
