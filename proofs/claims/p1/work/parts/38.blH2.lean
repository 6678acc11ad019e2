set_option maxRecDepth 100000 in
theorem b_Arrays_fill_52d_r33_0 {l : Launch} {Gr : zG} {n w : Nat} {d : Nat} {S : zS} {Q : Option Value → zS → Prop} {x1 : Int32}  (k0 : zW l Gr (zc n w) 168 M_Arrays_fill_52d d 5 [some (.ref 33), some (.int x1), some (.int 0), some (.int 20)] [] S Q) : zW l Gr (zc n w) 168 M_Arrays_fill_52d d 0 [some (.ref 33), some (.int x1), none, none] [] S Q := by
  refine z_go (Gr := Gr) (zc := zc n w) (K := 168) oV_Arrays_fill_52d 5 (pc' := 5) (L' := [some (.ref 33), some (.int x1), some (.int 0), some (.int 20)]) (st' := []) rfl ?_
  exact k0
set_option maxRecDepth 100000 in
theorem b_Arrays_fill_52d_r33_5 {l : Launch} {Gr : zG} {n w : Nat} {d : Nat} {S : zS} {Q : Option Value → zS → Prop} {x1 : Int32} {x2 : Int32} {x3 : Int32}  (k0 : x3 ≤ x2 → zW l Gr (zc n w) 168 M_Arrays_fill_52d d 20 [none, none, none, none] [] S Q) (k1 : ¬ x3 ≤ x2 → zW l Gr (zc n w) 168 M_Arrays_fill_52d d 10 [some (.ref 33), some (.int x1), some (.int x2), some (.int x3)] [] S Q) : zW l Gr (zc n w) 168 M_Arrays_fill_52d d 5 [some (.ref 33), some (.int x1), some (.int x2), some (.int x3)] [] S Q := by
  refine z_go (Gr := Gr) (zc := zc n w) (K := 168) oV_Arrays_fill_52d 2 (pc' := 7) (L' := [some (.ref 33), some (.int x1), some (.int x2), some (.int x3)]) (st' := [.int x3, .int x2]) rfl ?_
  exact z_icge (Gr := Gr) (tgt := 20) (oV_Arrays_fill_52d.1 (7, .if_icmp .ge 13) (ip_lk_mem rfl)) (by decide) (fun q => (z_forget (k0 q) trivial)) (fun q => (k1 q))
set_option maxRecDepth 100000 in
theorem b_Arrays_fill_52d_r33_20 {l : Launch} {Gr : zG} {n w : Nat} {d : Nat} {S : zS} {Q : Option Value → zS → Prop}   (k0 : Q none S) : zW l Gr (zc n w) 168 M_Arrays_fill_52d d 20 [none, none, none, none] [] S Q := by
  exact z_ret (v := none) (oV_Arrays_fill_52d.1 (20, .return_) (ip_lk_mem rfl)) k0
set_option maxRecDepth 100000 in
theorem b_Arrays_fill_52d_r33_10 {l : Launch} {Gr : zG} {n w : Nat} {d : Nat} {S : zS} {Q : Option Value → zS → Prop} {x1 : Int32} {x2 : Int32} {x3 : Int32} (g0 : vp_in x2 20) (k0 : zW l Gr (zc n w) 168 M_Arrays_fill_52d d 5 [some (.ref 33), some (.int x1), some (.int (x2 + Int32.ofInt 1)), some (.int x3)] [] (zi S 1 ((x2 : Int32).toNatClampNeg) ((x1 : Int32).toInt8.toInt32)) Q) : zW l Gr (zc n w) 168 M_Arrays_fill_52d d 10 [some (.ref 33), some (.int x1), some (.int x2), some (.int x3)] [] S Q := by
  refine z_go (Gr := Gr) (zc := zc n w) (K := 168) oV_Arrays_fill_52d 3 (pc' := 13) (L' := [some (.ref 33), some (.int x1), some (.int x2), some (.int x3)]) (st' := [.int x1, .int x2, .ref 33]) rfl ?_
  refine z_bast (Gr := Gr) (c := 1) (oV_Arrays_fill_52d.1 (13, .bastore) (ip_lk_mem rfl)) (by decide) (fun _ => rfl) g0 ?_
  refine z_go (Gr := Gr) (zc := zc n w) (K := 168) oV_Arrays_fill_52d 2 (pc' := 5) (L' := [some (.ref 33), some (.int x1), some (.int (x2 + Int32.ofInt 1)), some (.int x3)]) (st' := []) rfl ?_
  exact k0
theorem e_Arrays_fill_52d_r33 {l : Launch} {Gr : zG} {n w : Nat} {d : Nat} {S : zS} {R : zS → Prop} {x1 : Int32} (k : zW l Gr (zc n w) 168 M_Arrays_fill_52d d 0 [some (.ref 33), some (.int x1), none, none] [] S (fun v S' => v = none ∧ R S')) : zMv l Gr (zc n w) 168 M_Arrays_fill_52d d [.ref 33, .int x1] S R := z_mv oM_Arrays_fill_52d rfl (Nat.le_of_ble_eq_true rfl) k
set_option maxRecDepth 100000 in
theorem b_Arrays_fill_78e_r55_0 {l : Launch} {Gr : zG} {n w : Nat} {d : Nat} {S : zS} {Q : Option Value → zS → Prop} {x1 : Int32}  (k0 : zW l Gr (zc n w) 168 M_Arrays_fill_78e d 5 [some (.ref 55), some (.int x1), some (.int 0), some (.int (nI n))] [] S Q) : zW l Gr (zc n w) 168 M_Arrays_fill_78e d 0 [some (.ref 55), some (.int x1), none, none] [] S Q := by
  refine z_go (Gr := Gr) (zc := zc n w) (K := 168) oV_Arrays_fill_78e 5 (pc' := 5) (L' := [some (.ref 55), some (.int x1), some (.int 0), some (.int (nI n))]) (st' := []) rfl ?_
  exact k0
set_option maxRecDepth 100000 in
theorem b_Arrays_fill_78e_r55_5 {l : Launch} {Gr : zG} {n w : Nat} {d : Nat} {S : zS} {Q : Option Value → zS → Prop} {x1 : Int32} {x2 : Int32} {x3 : Int32}  (k0 : x3 ≤ x2 → zW l Gr (zc n w) 168 M_Arrays_fill_78e d 20 [none, none, none, none] [] S Q) (k1 : ¬ x3 ≤ x2 → zW l Gr (zc n w) 168 M_Arrays_fill_78e d 10 [some (.ref 55), some (.int x1), some (.int x2), some (.int x3)] [] S Q) : zW l Gr (zc n w) 168 M_Arrays_fill_78e d 5 [some (.ref 55), some (.int x1), some (.int x2), some (.int x3)] [] S Q := by
  refine z_go (Gr := Gr) (zc := zc n w) (K := 168) oV_Arrays_fill_78e 2 (pc' := 7) (L' := [some (.ref 55), some (.int x1), some (.int x2), some (.int x3)]) (st' := [.int x3, .int x2]) rfl ?_
  exact z_icge (Gr := Gr) (tgt := 20) (oV_Arrays_fill_78e.1 (7, .if_icmp .ge 13) (ip_lk_mem rfl)) (by decide) (fun q => (z_forget (k0 q) trivial)) (fun q => (k1 q))
set_option maxRecDepth 100000 in
theorem b_Arrays_fill_78e_r55_20 {l : Launch} {Gr : zG} {n w : Nat} {d : Nat} {S : zS} {Q : Option Value → zS → Prop}   (k0 : Q none S) : zW l Gr (zc n w) 168 M_Arrays_fill_78e d 20 [none, none, none, none] [] S Q := by
  exact z_ret (v := none) (oV_Arrays_fill_78e.1 (20, .return_) (ip_lk_mem rfl)) k0
set_option maxRecDepth 100000 in
theorem b_Arrays_fill_78e_r55_10 {l : Launch} {Gr : zG} {n w : Nat} {d : Nat} {S : zS} {Q : Option Value → zS → Prop} {x1 : Int32} {x2 : Int32} {x3 : Int32} (g0 : vp_in x2 n) (k0 : zW l Gr (zc n w) 168 M_Arrays_fill_78e d 5 [some (.ref 55), some (.int x1), some (.int (x2 + Int32.ofInt 1)), some (.int x3)] [] (zi S 23 ((x2 : Int32).toNatClampNeg) x1) Q) : zW l Gr (zc n w) 168 M_Arrays_fill_78e d 10 [some (.ref 55), some (.int x1), some (.int x2), some (.int x3)] [] S Q := by
  refine z_go (Gr := Gr) (zc := zc n w) (K := 168) oV_Arrays_fill_78e 3 (pc' := 13) (L' := [some (.ref 55), some (.int x1), some (.int x2), some (.int x3)]) (st' := [.int x1, .int x2, .ref 55]) rfl ?_
  refine z_iast (Gr := Gr) (c := 23) (oV_Arrays_fill_78e.1 (13, .iastore) (ip_lk_mem rfl)) (by decide) (fun _ => rfl) g0 ?_
  refine z_go (Gr := Gr) (zc := zc n w) (K := 168) oV_Arrays_fill_78e 2 (pc' := 5) (L' := [some (.ref 55), some (.int x1), some (.int (x2 + Int32.ofInt 1)), some (.int x3)]) (st' := []) rfl ?_
  exact k0
theorem e_Arrays_fill_78e_r55 {l : Launch} {Gr : zG} {n w : Nat} {d : Nat} {S : zS} {R : zS → Prop} {x1 : Int32} (k : zW l Gr (zc n w) 168 M_Arrays_fill_78e d 0 [some (.ref 55), some (.int x1), none, none] [] S (fun v S' => v = none ∧ R S')) : zMv l Gr (zc n w) 168 M_Arrays_fill_78e d [.ref 55, .int x1] S R := z_mv oM_Arrays_fill_78e rfl (Nat.le_of_ble_eq_true rfl) k
set_option maxRecDepth 100000 in
theorem b_Arrays_fill_78e_r62_0 {l : Launch} {Gr : zG} {n w : Nat} {d : Nat} {S : zS} {Q : Option Value → zS → Prop} {x1 : Int32}  (k0 : zW l Gr (zc n w) 168 M_Arrays_fill_78e d 5 [some (.ref 62), some (.int x1), some (.int 0), some (.int 2003)] [] S Q) : zW l Gr (zc n w) 168 M_Arrays_fill_78e d 0 [some (.ref 62), some (.int x1), none, none] [] S Q := by
  refine z_go (Gr := Gr) (zc := zc n w) (K := 168) oV_Arrays_fill_78e 5 (pc' := 5) (L' := [some (.ref 62), some (.int x1), some (.int 0), some (.int 2003)]) (st' := []) rfl ?_
  exact k0
set_option maxRecDepth 100000 in
theorem b_Arrays_fill_78e_r62_5 {l : Launch} {Gr : zG} {n w : Nat} {d : Nat} {S : zS} {Q : Option Value → zS → Prop} {x1 : Int32} {x2 : Int32} {x3 : Int32}  (k0 : x3 ≤ x2 → zW l Gr (zc n w) 168 M_Arrays_fill_78e d 20 [none, none, none, none] [] S Q) (k1 : ¬ x3 ≤ x2 → zW l Gr (zc n w) 168 M_Arrays_fill_78e d 10 [some (.ref 62), some (.int x1), some (.int x2), some (.int x3)] [] S Q) : zW l Gr (zc n w) 168 M_Arrays_fill_78e d 5 [some (.ref 62), some (.int x1), some (.int x2), some (.int x3)] [] S Q := by
  refine z_go (Gr := Gr) (zc := zc n w) (K := 168) oV_Arrays_fill_78e 2 (pc' := 7) (L' := [some (.ref 62), some (.int x1), some (.int x2), some (.int x3)]) (st' := [.int x3, .int x2]) rfl ?_
  exact z_icge (Gr := Gr) (tgt := 20) (oV_Arrays_fill_78e.1 (7, .if_icmp .ge 13) (ip_lk_mem rfl)) (by decide) (fun q => (z_forget (k0 q) trivial)) (fun q => (k1 q))
set_option maxRecDepth 100000 in
theorem b_Arrays_fill_78e_r62_20 {l : Launch} {Gr : zG} {n w : Nat} {d : Nat} {S : zS} {Q : Option Value → zS → Prop}   (k0 : Q none S) : zW l Gr (zc n w) 168 M_Arrays_fill_78e d 20 [none, none, none, none] [] S Q := by
  exact z_ret (v := none) (oV_Arrays_fill_78e.1 (20, .return_) (ip_lk_mem rfl)) k0
set_option maxRecDepth 100000 in
theorem b_Arrays_fill_78e_r62_10 {l : Launch} {Gr : zG} {n w : Nat} {d : Nat} {S : zS} {Q : Option Value → zS → Prop} {x1 : Int32} {x2 : Int32} {x3 : Int32} (g0 : vp_in x2 2003) (k0 : zW l Gr (zc n w) 168 M_Arrays_fill_78e d 5 [some (.ref 62), some (.int x1), some (.int (x2 + Int32.ofInt 1)), some (.int x3)] [] (zi S 30 ((x2 : Int32).toNatClampNeg) x1) Q) : zW l Gr (zc n w) 168 M_Arrays_fill_78e d 10 [some (.ref 62), some (.int x1), some (.int x2), some (.int x3)] [] S Q := by
  refine z_go (Gr := Gr) (zc := zc n w) (K := 168) oV_Arrays_fill_78e 3 (pc' := 13) (L' := [some (.ref 62), some (.int x1), some (.int x2), some (.int x3)]) (st' := [.int x1, .int x2, .ref 62]) rfl ?_
  refine z_iast (Gr := Gr) (c := 30) (oV_Arrays_fill_78e.1 (13, .iastore) (ip_lk_mem rfl)) (by decide) (fun _ => rfl) g0 ?_
  refine z_go (Gr := Gr) (zc := zc n w) (K := 168) oV_Arrays_fill_78e 2 (pc' := 5) (L' := [some (.ref 62), some (.int x1), some (.int (x2 + Int32.ofInt 1)), some (.int x3)]) (st' := []) rfl ?_
  exact k0
theorem e_Arrays_fill_78e_r62 {l : Launch} {Gr : zG} {n w : Nat} {d : Nat} {S : zS} {R : zS → Prop} {x1 : Int32} (k : zW l Gr (zc n w) 168 M_Arrays_fill_78e d 0 [some (.ref 62), some (.int x1), none, none] [] S (fun v S' => v = none ∧ R S')) : zMv l Gr (zc n w) 168 M_Arrays_fill_78e d [.ref 62, .int x1] S R := z_mv oM_Arrays_fill_78e rfl (Nat.le_of_ble_eq_true rfl) k
set_option maxRecDepth 100000 in
theorem b_Arrays_fill_78e_r90_0 {l : Launch} {Gr : zG} {n w : Nat} {d : Nat} {S : zS} {Q : Option Value → zS → Prop} {x1 : Int32}  (k0 : zW l Gr (zc n w) 168 M_Arrays_fill_78e d 5 [some (.ref 90), some (.int x1), some (.int 0), some (.int (nI (256 * w)))] [] S Q) : zW l Gr (zc n w) 168 M_Arrays_fill_78e d 0 [some (.ref 90), some (.int x1), none, none] [] S Q := by
  refine z_go (Gr := Gr) (zc := zc n w) (K := 168) oV_Arrays_fill_78e 5 (pc' := 5) (L' := [some (.ref 90), some (.int x1), some (.int 0), some (.int (nI (256 * w)))]) (st' := []) rfl ?_
  exact k0
set_option maxRecDepth 100000 in
theorem b_Arrays_fill_78e_r90_5 {l : Launch} {Gr : zG} {n w : Nat} {d : Nat} {S : zS} {Q : Option Value → zS → Prop} {x1 : Int32} {x2 : Int32} {x3 : Int32}  (k0 : x3 ≤ x2 → zW l Gr (zc n w) 168 M_Arrays_fill_78e d 20 [none, none, none, none] [] S Q) (k1 : ¬ x3 ≤ x2 → zW l Gr (zc n w) 168 M_Arrays_fill_78e d 10 [some (.ref 90), some (.int x1), some (.int x2), some (.int x3)] [] S Q) : zW l Gr (zc n w) 168 M_Arrays_fill_78e d 5 [some (.ref 90), some (.int x1), some (.int x2), some (.int x3)] [] S Q := by
  refine z_go (Gr := Gr) (zc := zc n w) (K := 168) oV_Arrays_fill_78e 2 (pc' := 7) (L' := [some (.ref 90), some (.int x1), some (.int x2), some (.int x3)]) (st' := [.int x3, .int x2]) rfl ?_
  exact z_icge (Gr := Gr) (tgt := 20) (oV_Arrays_fill_78e.1 (7, .if_icmp .ge 13) (ip_lk_mem rfl)) (by decide) (fun q => (z_forget (k0 q) trivial)) (fun q => (k1 q))
set_option maxRecDepth 100000 in
theorem b_Arrays_fill_78e_r90_20 {l : Launch} {Gr : zG} {n w : Nat} {d : Nat} {S : zS} {Q : Option Value → zS → Prop}   (k0 : Q none S) : zW l Gr (zc n w) 168 M_Arrays_fill_78e d 20 [none, none, none, none] [] S Q := by
  exact z_ret (v := none) (oV_Arrays_fill_78e.1 (20, .return_) (ip_lk_mem rfl)) k0
set_option maxRecDepth 100000 in
theorem b_Arrays_fill_78e_r90_10 {l : Launch} {Gr : zG} {n w : Nat} {d : Nat} {S : zS} {Q : Option Value → zS → Prop} {x1 : Int32} {x2 : Int32} {x3 : Int32} (g0 : vp_in x2 (256 * w)) (k0 : zW l Gr (zc n w) 168 M_Arrays_fill_78e d 5 [some (.ref 90), some (.int x1), some (.int (x2 + Int32.ofInt 1)), some (.int x3)] [] (zi S 58 ((x2 : Int32).toNatClampNeg) x1) Q) : zW l Gr (zc n w) 168 M_Arrays_fill_78e d 10 [some (.ref 90), some (.int x1), some (.int x2), some (.int x3)] [] S Q := by
  refine z_go (Gr := Gr) (zc := zc n w) (K := 168) oV_Arrays_fill_78e 3 (pc' := 13) (L' := [some (.ref 90), some (.int x1), some (.int x2), some (.int x3)]) (st' := [.int x1, .int x2, .ref 90]) rfl ?_
  refine z_iast (Gr := Gr) (c := 58) (oV_Arrays_fill_78e.1 (13, .iastore) (ip_lk_mem rfl)) (by decide) (fun _ => rfl) g0 ?_
  refine z_go (Gr := Gr) (zc := zc n w) (K := 168) oV_Arrays_fill_78e 2 (pc' := 5) (L' := [some (.ref 90), some (.int x1), some (.int (x2 + Int32.ofInt 1)), some (.int x3)]) (st' := []) rfl ?_
  exact k0
theorem e_Arrays_fill_78e_r90 {l : Launch} {Gr : zG} {n w : Nat} {d : Nat} {S : zS} {R : zS → Prop} {x1 : Int32} (k : zW l Gr (zc n w) 168 M_Arrays_fill_78e d 0 [some (.ref 90), some (.int x1), none, none] [] S (fun v S' => v = none ∧ R S')) : zMv l Gr (zc n w) 168 M_Arrays_fill_78e d [.ref 90, .int x1] S R := z_mv oM_Arrays_fill_78e rfl (Nat.le_of_ble_eq_true rfl) k
set_option maxRecDepth 100000 in
theorem b_Code_clear_0 {l : Launch} {Gr : zG} {n w : Nat} {d : Nat} {S : zS} {Q : Option Value → zS → Prop}   (k0 : Q none (zi (zi (zi S 3 4 0) 3 5 0) 3 6 (-1))) : zW l Gr (zc n w) 168 M_Code_clear d 0 [some (.ref 35)] [] S Q := by
  refine z_go (Gr := Gr) (zc := zc n w) (K := 168) oV_Code_clear 2 (pc' := 2) (L' := [some (.ref 35)]) (st' := [.int 0, .ref 35]) rfl ?_
  refine z_putI (Gr := Gr) (c := 3) (oV_Code_clear.1 (2, .putfield 28) (ip_lk_mem rfl)) (oV_Code_clear.2.1 (28, 2, 4, .int, false) (ip_lk_mem rfl)).1 (by decide) (zo_3 _ _ _ _) (zs_3_4 _ _ _ _ _) (zn_3_4 _ _ _ _) rfl ?_
  refine z_go (Gr := Gr) (zc := zc n w) (K := 168) oV_Code_clear 2 (pc' := 7) (L' := [some (.ref 35)]) (st' := [.int 0, .ref 35]) rfl ?_
  refine z_putI (Gr := Gr) (c := 3) (oV_Code_clear.1 (7, .putfield 31) (ip_lk_mem rfl)) (oV_Code_clear.2.1 (31, 2, 5, .int, false) (ip_lk_mem rfl)).1 (by decide) (zo_3 _ _ _ _) (zs_3_5 _ _ _ _ _) (zn_3_5 _ _ _ _) rfl ?_
  refine z_go (Gr := Gr) (zc := zc n w) (K := 168) oV_Code_clear 2 (pc' := 12) (L' := [some (.ref 35)]) (st' := [.int (-1), .ref 35]) rfl ?_
  refine z_putI (Gr := Gr) (c := 3) (oV_Code_clear.1 (12, .putfield 24) (ip_lk_mem rfl)) (oV_Code_clear.2.1 (24, 2, 6, .int, false) (ip_lk_mem rfl)).1 (by decide) (zo_3 _ _ _ _) (zs_3_6 _ _ _ _ _) (zn_3_6 _ _ _ _) rfl ?_
  exact z_ret (v := none) (oV_Code_clear.1 (15, .return_) (ip_lk_mem rfl)) k0
theorem e_Code_clear {l : Launch} {Gr : zG} {n w : Nat} {d : Nat} {S : zS} {R : zS → Prop}  (k : zW l Gr (zc n w) 168 M_Code_clear d 0 [some (.ref 35)] [] S (fun v S' => v = none ∧ R S')) : zMv l Gr (zc n w) 168 M_Code_clear d [.ref 35] S R := z_mv oM_Code_clear rfl (Nat.le_of_ble_eq_true rfl) k
set_option maxRecDepth 100000 in
theorem b_Names_clear_0 {l : Launch} {Gr : zG} {n w : Nat} {d : Nat} {S : zS} {Q : Option Value → zS → Prop} {x1 : Int32}  (k0 : Q none (zi (zi (zi (zi S 8 1 x1) 8 9 0) 8 11 0) 8 12 0)) : zW l Gr (zc n w) 168 M_Names_clear d 0 [some (.ref 40), some (.int x1)] [] S Q := by
  refine z_go (Gr := Gr) (zc := zc n w) (K := 168) oV_Names_clear 2 (pc' := 2) (L' := [some (.ref 40), some (.int x1)]) (st' := [.int x1, .ref 40]) rfl ?_
  refine z_putI (Gr := Gr) (c := 8) (oV_Names_clear.1 (2, .putfield 40) (ip_lk_mem rfl)) (oV_Names_clear.2.1 (40, 6, 1, .int, false) (ip_lk_mem rfl)).1 (by decide) (zo_8 _ _ _ _) (zs_8_1 _ _ _ _ _) (zn_8_1 _ _ _ _) rfl ?_
  refine z_go (Gr := Gr) (zc := zc n w) (K := 168) oV_Names_clear 2 (pc' := 7) (L' := [some (.ref 40), some (.int x1)]) (st' := [.int 0, .ref 40]) rfl ?_
  refine z_putI (Gr := Gr) (c := 8) (oV_Names_clear.1 (7, .putfield 44) (ip_lk_mem rfl)) (oV_Names_clear.2.1 (44, 6, 9, .int, false) (ip_lk_mem rfl)).1 (by decide) (zo_8 _ _ _ _) (zs_8_9 _ _ _ _ _) (zn_8_9 _ _ _ _) rfl ?_
  refine z_go (Gr := Gr) (zc := zc n w) (K := 168) oV_Names_clear 2 (pc' := 12) (L' := [some (.ref 40), some (.int x1)]) (st' := [.int 0, .ref 40]) rfl ?_
  refine z_putI (Gr := Gr) (c := 8) (oV_Names_clear.1 (12, .putfield 47) (ip_lk_mem rfl)) (oV_Names_clear.2.1 (47, 6, 11, .int, false) (ip_lk_mem rfl)).1 (by decide) (zo_8 _ _ _ _) (zs_8_11 _ _ _ _ _) (zn_8_11 _ _ _ _) rfl ?_
  refine z_go (Gr := Gr) (zc := zc n w) (K := 168) oV_Names_clear 2 (pc' := 17) (L' := [some (.ref 40), some (.int x1)]) (st' := [.int 0, .ref 40]) rfl ?_
  refine z_putI (Gr := Gr) (c := 8) (oV_Names_clear.1 (17, .putfield 50) (ip_lk_mem rfl)) (oV_Names_clear.2.1 (50, 6, 12, .int, false) (ip_lk_mem rfl)).1 (by decide) (zo_8 _ _ _ _) (zs_8_12 _ _ _ _ _) (zn_8_12 _ _ _ _) rfl ?_
  exact z_ret (v := none) (oV_Names_clear.1 (20, .return_) (ip_lk_mem rfl)) k0
theorem e_Names_clear {l : Launch} {Gr : zG} {n w : Nat} {d : Nat} {S : zS} {R : zS → Prop} {x1 : Int32} (k : zW l Gr (zc n w) 168 M_Names_clear d 0 [some (.ref 40), some (.int x1)] [] S (fun v S' => v = none ∧ R S')) : zMv l Gr (zc n w) 168 M_Names_clear d [.ref 40, .int x1] S R := z_mv oM_Names_clear rfl (Nat.le_of_ble_eq_true rfl) k
set_option maxRecDepth 100000 in
theorem b_Inputs_clear_0 {l : Launch} {Gr : zG} {n w : Nat} {d : Nat} {S : zS} {Q : Option Value → zS → Prop} {R : zS → Prop} (hg : ip_gk (lg_tbl, vwCl, Gr))   (k0 : zMv l Gr (zc n w) 168 M_Arrays_fill_78e d [.ref 55, .int 0] (zi (zi S 17 6 0) 17 7 0) R) (k1 : ∀ S', R S' → zW l Gr (zc n w) 168 M_Inputs_clear (d + 1) 18 [none] [] S' Q) : zW l Gr (zc n w) 168 M_Inputs_clear (d + 1) 0 [some (.ref 49)] [] S Q := by
  refine z_go (Gr := Gr) (zc := zc n w) (K := 168) oV_Inputs_clear 2 (pc' := 2) (L' := [some (.ref 49)]) (st' := [.int 0, .ref 49]) rfl ?_
  refine z_putI (Gr := Gr) (c := 17) (oV_Inputs_clear.1 (2, .putfield 30) (ip_lk_mem rfl)) (oV_Inputs_clear.2.1 (30, 4, 6, .int, false) (ip_lk_mem rfl)).1 (by decide) (zo_17 _ _ _ _) (zs_17_6 _ _ _ _ _) (zn_17_6 _ _ _ _) rfl ?_
  refine z_go (Gr := Gr) (zc := zc n w) (K := 168) oV_Inputs_clear 2 (pc' := 7) (L' := [some (.ref 49)]) (st' := [.int 0, .ref 49]) rfl ?_
  refine z_putI (Gr := Gr) (c := 17) (oV_Inputs_clear.1 (7, .putfield 34) (ip_lk_mem rfl)) (oV_Inputs_clear.2.1 (34, 4, 7, .int, false) (ip_lk_mem rfl)).1 (by decide) (zo_17 _ _ _ _) (zs_17_7 _ _ _ _ _) (zn_17_7 _ _ _ _) rfl ?_
  refine z_go (Gr := Gr) (zc := zc n w) (K := 168) oV_Inputs_clear 3 (pc' := 15) (L' := [some (.ref 49)]) (st' := [.int 0, .ref 55]) rfl ?_
  exact z_callS (Gr := Gr) hg.2.2.1 fT oM_Arrays_fill_78e (oV_Inputs_clear.1 (15, .invokestatic 37) (ip_lk_mem rfl)) ⟨tt_3 _ (List.mem_of_getElem? (i := 165) rfl) rfl, tt_3 _ (List.mem_of_getElem? (i := 166) rfl) rfl⟩ (As := [.ref 55, .int 0]) rfl (Nat.le_of_ble_eq_true rfl) k0 (fun v S' q => by obtain ⟨rfl, q⟩ := q; exact (z_forget (k1 _ q) trivial))
set_option maxRecDepth 100000 in
theorem b_Inputs_clear_18 {l : Launch} {Gr : zG} {n w : Nat} {d : Nat} {S : zS} {Q : Option Value → zS → Prop}   (k0 : Q none S) : zW l Gr (zc n w) 168 M_Inputs_clear (d + 1) 18 [none] [] S Q := by
  exact z_ret (v := none) (oV_Inputs_clear.1 (18, .return_) (ip_lk_mem rfl)) k0
theorem e_Inputs_clear {l : Launch} {Gr : zG} {n w : Nat} {d : Nat} {S : zS} {R : zS → Prop}  (k : zW l Gr (zc n w) 168 M_Inputs_clear (d + 1) 0 [some (.ref 49)] [] S (fun v S' => v = none ∧ R S')) : zMv l Gr (zc n w) 168 M_Inputs_clear (d + 1) [.ref 49] S R := z_mv oM_Inputs_clear rfl (Nat.le_of_ble_eq_true rfl) k
set_option maxRecDepth 100000 in
theorem b_Words_skipBlanks_0 {l : Launch} {Gr : zG} {n w : Nat} {d : Nat} {S : zS} {Q : Option Value → zS → Prop}   (k0 : zW l Gr (zc n w) 168 M_Words_skipBlanks d 2 [some (.ref 70), some (.int 0), none] [] S Q) : zW l Gr (zc n w) 168 M_Words_skipBlanks d 0 [some (.ref 70), none, none] [] S Q := by
  refine z_go (Gr := Gr) (zc := zc n w) (K := 168) oV_Words_skipBlanks 2 (pc' := 2) (L' := [some (.ref 70), some (.int 0), none]) (st' := []) rfl ?_
  exact k0
set_option maxRecDepth 100000 in
theorem b_Words_skipBlanks_2 {l : Launch} {Gr : zG} {n w : Nat} {d : Nat} {S : zS} {Q : Option Value → zS → Prop} {x1 : Int32}  (k0 : (S.1 38 1) ≤ (S.1 38 4) → zW l Gr (zc n w) 168 M_Words_skipBlanks d 81 [none, none, none] [] S Q) (k1 : ¬ (S.1 38 1) ≤ (S.1 38 4) → zW l Gr (zc n w) 168 M_Words_skipBlanks d 13 [some (.ref 70), some (.int x1), none] [] S Q) : zW l Gr (zc n w) 168 M_Words_skipBlanks d 2 [some (.ref 70), some (.int x1), none] [] S Q := by
  refine z_go (Gr := Gr) (zc := zc n w) (K := 168) oV_Words_skipBlanks 4 (pc' := 10) (L' := [some (.ref 70), some (.int x1), none]) (st' := [.int (S.1 38 1), .int (S.1 38 4)]) rfl ?_
  exact z_icge (Gr := Gr) (tgt := 81) (oV_Words_skipBlanks.1 (10, .if_icmp .ge 71) (ip_lk_mem rfl)) (by decide) (fun q => (z_forget (k0 q) trivial)) (fun q => (k1 q))
set_option maxRecDepth 100000 in
theorem b_Words_skipBlanks_81 {l : Launch} {Gr : zG} {n w : Nat} {d : Nat} {S : zS} {Q : Option Value → zS → Prop}   (k0 : Q none S) : zW l Gr (zc n w) 168 M_Words_skipBlanks d 81 [none, none, none] [] S Q := by
  exact z_ret (v := none) (oV_Words_skipBlanks.1 (81, .return_) (ip_lk_mem rfl)) k0
set_option maxRecDepth 100000 in
theorem b_Words_skipBlanks_13 {l : Launch} {Gr : zG} {n w : Nat} {d : Nat} {S : zS} {Q : Option Value → zS → Prop} {x1 : Int32} (g0 : vp_in (S.1 38 4) 4000) (k0 : (S.1 2 (((S.1 38 4) : Int32).toNatClampNeg)) = 10 → zW l Gr (zc n w) 168 M_Words_skipBlanks d 43 [some (.ref 70), none, some (.int (S.1 2 (((S.1 38 4) : Int32).toNatClampNeg)))] [] S Q) (k1 : ¬ (S.1 2 (((S.1 38 4) : Int32).toNatClampNeg)) = 10 → zW l Gr (zc n w) 168 M_Words_skipBlanks d 29 [some (.ref 70), some (.int x1), some (.int (S.1 2 (((S.1 38 4) : Int32).toNatClampNeg)))] [] S Q) : zW l Gr (zc n w) 168 M_Words_skipBlanks d 13 [some (.ref 70), some (.int x1), none] [] S Q := by
  refine z_go (Gr := Gr) (zc := zc n w) (K := 168) oV_Words_skipBlanks 4 (pc' := 21) (L' := [some (.ref 70), some (.int x1), none]) (st' := [.int (S.1 38 4), .ref 34]) rfl ?_
  refine z_bald (Gr := Gr) (c := 2) (oV_Words_skipBlanks.1 (21, .baload) (ip_lk_mem rfl)) (by decide) rfl g0 ?_
  refine z_go (Gr := Gr) (zc := zc n w) (K := 168) oV_Words_skipBlanks 3 (pc' := 26) (L' := [some (.ref 70), some (.int x1), some (.int (S.1 2 (((S.1 38 4) : Int32).toNatClampNeg)))]) (st' := [.int 10, .int (S.1 2 (((S.1 38 4) : Int32).toNatClampNeg))]) rfl ?_
  exact z_iceq (Gr := Gr) (tgt := 43) (oV_Words_skipBlanks.1 (26, .if_icmp .eq 17) (ip_lk_mem rfl)) (by decide) (fun q => (z_forget (k0 q) (And.intro rfl (And.intro rfl trivial)))) (fun q => (k1 q))
set_option maxRecDepth 100000 in
theorem b_Words_skipBlanks_43 {l : Launch} {Gr : zG} {n w : Nat} {d : Nat} {S : zS} {Q : Option Value → zS → Prop} {x2 : Int32}  (k0 : zW l Gr (zc n w) 168 M_Words_skipBlanks d 44 [some (.ref 70), none, some (.int x2)] [.int 0] S Q) : zW l Gr (zc n w) 168 M_Words_skipBlanks d 43 [some (.ref 70), none, some (.int x2)] [] S Q := by
  refine z_go (Gr := Gr) (zc := zc n w) (K := 168) oV_Words_skipBlanks 1 (pc' := 44) (L' := [some (.ref 70), none, some (.int x2)]) (st' := [.int 0]) rfl ?_
  exact k0
set_option maxRecDepth 100000 in
theorem b_Words_skipBlanks_29 {l : Launch} {Gr : zG} {n w : Nat} {d : Nat} {S : zS} {Q : Option Value → zS → Prop} {x1 : Int32} {x2 : Int32}  (k0 : ¬ x1 = 0 → zW l Gr (zc n w) 168 M_Words_skipBlanks d 39 [some (.ref 70), none, some (.int x2)] [] S Q) (k1 : x1 = 0 → zW l Gr (zc n w) 168 M_Words_skipBlanks d 33 [some (.ref 70), none, some (.int x2)] [] S Q) : zW l Gr (zc n w) 168 M_Words_skipBlanks d 29 [some (.ref 70), some (.int x1), some (.int x2)] [] S Q := by
  refine z_go (Gr := Gr) (zc := zc n w) (K := 168) oV_Words_skipBlanks 1 (pc' := 30) (L' := [some (.ref 70), some (.int x1), some (.int x2)]) (st' := [.int x1]) rfl ?_
  exact z_ifne (Gr := Gr) (tgt := 39) (oV_Words_skipBlanks.1 (30, .ifCond .ne 9) (ip_lk_mem rfl)) (by decide) (fun q => (z_forget (k0 q) (And.intro rfl (And.intro rfl trivial)))) (fun q => (z_forget (k1 q) (And.intro rfl (And.intro rfl trivial))))
set_option maxRecDepth 100000 in
theorem b_Words_skipBlanks_44 {l : Launch} {Gr : zG} {n w : Nat} {d : Nat} {S : zS} {Q : Option Value → zS → Prop} {x2 : Int32} {s0 : Int32}  (k0 : ¬ s0 = 0 → zW l Gr (zc n w) 168 M_Words_skipBlanks d 68 [some (.ref 70), some (.int s0), none] [] S Q) (k1 : s0 = 0 → zW l Gr (zc n w) 168 M_Words_skipBlanks d 49 [some (.ref 70), some (.int s0), some (.int x2)] [] S Q) : zW l Gr (zc n w) 168 M_Words_skipBlanks d 44 [some (.ref 70), none, some (.int x2)] [.int s0] S Q := by
  refine z_go (Gr := Gr) (zc := zc n w) (K := 168) oV_Words_skipBlanks 2 (pc' := 46) (L' := [some (.ref 70), some (.int s0), some (.int x2)]) (st' := [.int s0]) rfl ?_
  exact z_ifne (Gr := Gr) (tgt := 68) (oV_Words_skipBlanks.1 (46, .ifCond .ne 22) (ip_lk_mem rfl)) (by decide) (fun q => (z_forget (k0 q) (And.intro rfl (And.intro rfl trivial)))) (fun q => (k1 q))
set_option maxRecDepth 100000 in
theorem b_Words_skipBlanks_39 {l : Launch} {Gr : zG} {n w : Nat} {d : Nat} {S : zS} {Q : Option Value → zS → Prop} {x2 : Int32}  (k0 : zW l Gr (zc n w) 168 M_Words_skipBlanks d 44 [some (.ref 70), none, some (.int x2)] [.int 1] S Q) : zW l Gr (zc n w) 168 M_Words_skipBlanks d 39 [some (.ref 70), none, some (.int x2)] [] S Q := by
  refine z_go (Gr := Gr) (zc := zc n w) (K := 168) oV_Words_skipBlanks 2 (pc' := 44) (L' := [some (.ref 70), none, some (.int x2)]) (st' := [.int 1]) rfl ?_
  exact k0
set_option maxRecDepth 100000 in
theorem b_Words_skipBlanks_33 {l : Launch} {Gr : zG} {n w : Nat} {d : Nat} {S : zS} {Q : Option Value → zS → Prop} {x2 : Int32}  (k0 : ¬ x2 = 35 → zW l Gr (zc n w) 168 M_Words_skipBlanks d 43 [some (.ref 70), none, some (.int x2)] [] S Q) (k1 : x2 = 35 → zW l Gr (zc n w) 168 M_Words_skipBlanks d 39 [some (.ref 70), none, some (.int x2)] [] S Q) : zW l Gr (zc n w) 168 M_Words_skipBlanks d 33 [some (.ref 70), none, some (.int x2)] [] S Q := by
  refine z_go (Gr := Gr) (zc := zc n w) (K := 168) oV_Words_skipBlanks 2 (pc' := 36) (L' := [some (.ref 70), none, some (.int x2)]) (st' := [.int 35, .int x2]) rfl ?_
  exact z_icne (Gr := Gr) (tgt := 43) (oV_Words_skipBlanks.1 (36, .if_icmp .ne 7) (ip_lk_mem rfl)) (by decide) (fun q => (k0 q)) (fun q => (k1 q))
set_option maxRecDepth 100000 in
theorem b_Words_skipBlanks_68 {l : Launch} {Gr : zG} {n w : Nat} {d : Nat} {S : zS} {Q : Option Value → zS → Prop} {x1 : Int32}  (k0 : zW l Gr (zc n w) 168 M_Words_skipBlanks d 2 [some (.ref 70), some (.int x1), none] [] (zi S 38 4 ((S.1 38 4) + 1)) Q) : zW l Gr (zc n w) 168 M_Words_skipBlanks d 68 [some (.ref 70), some (.int x1), none] [] S Q := by
  refine z_go (Gr := Gr) (zc := zc n w) (K := 168) oV_Words_skipBlanks 5 (pc' := 75) (L' := [some (.ref 70), some (.int x1), none]) (st' := [.int ((S.1 38 4) + 1), .ref 70]) rfl ?_
  refine z_putI (Gr := Gr) (c := 38) (oV_Words_skipBlanks.1 (75, .putfield 19) (ip_lk_mem rfl)) (oV_Words_skipBlanks.2.1 (19, 10, 4, .int, false) (ip_lk_mem rfl)).1 (by decide) (zo_38 _ _ _ _) (zs_38_4 _ _ _ _ _) (zn_38_4 _ _ _ _) rfl ?_
  refine z_go (Gr := Gr) (zc := zc n w) (K := 168) oV_Words_skipBlanks 1 (pc' := 2) (L' := [some (.ref 70), some (.int x1), none]) (st' := []) rfl ?_
  exact k0
set_option maxRecDepth 100000 in
theorem b_Words_skipBlanks_49 {l : Launch} {Gr : zG} {n w : Nat} {d : Nat} {S : zS} {Q : Option Value → zS → Prop} {x1 : Int32} {x2 : Int32}  (k0 : x2 = 32 → zW l Gr (zc n w) 168 M_Words_skipBlanks d 68 [some (.ref 70), some (.int x1), none] [] S Q) (k1 : ¬ x2 = 32 → zW l Gr (zc n w) 168 M_Words_skipBlanks d 55 [some (.ref 70), some (.int x1), some (.int x2)] [] S Q) : zW l Gr (zc n w) 168 M_Words_skipBlanks d 49 [some (.ref 70), some (.int x1), some (.int x2)] [] S Q := by
  refine z_go (Gr := Gr) (zc := zc n w) (K := 168) oV_Words_skipBlanks 2 (pc' := 52) (L' := [some (.ref 70), some (.int x1), some (.int x2)]) (st' := [.int 32, .int x2]) rfl ?_
  exact z_iceq (Gr := Gr) (tgt := 68) (oV_Words_skipBlanks.1 (52, .if_icmp .eq 16) (ip_lk_mem rfl)) (by decide) (fun q => (z_forget (k0 q) (And.intro rfl (And.intro rfl trivial)))) (fun q => (k1 q))
set_option maxRecDepth 100000 in
theorem b_Words_skipBlanks_55 {l : Launch} {Gr : zG} {n w : Nat} {d : Nat} {S : zS} {Q : Option Value → zS → Prop} {x1 : Int32} {x2 : Int32}  (k0 : x2 = 9 → zW l Gr (zc n w) 168 M_Words_skipBlanks d 68 [some (.ref 70), some (.int x1), none] [] S Q) (k1 : ¬ x2 = 9 → zW l Gr (zc n w) 168 M_Words_skipBlanks d 61 [some (.ref 70), some (.int x1), some (.int x2)] [] S Q) : zW l Gr (zc n w) 168 M_Words_skipBlanks d 55 [some (.ref 70), some (.int x1), some (.int x2)] [] S Q := by
  refine z_go (Gr := Gr) (zc := zc n w) (K := 168) oV_Words_skipBlanks 2 (pc' := 58) (L' := [some (.ref 70), some (.int x1), some (.int x2)]) (st' := [.int 9, .int x2]) rfl ?_
  exact z_iceq (Gr := Gr) (tgt := 68) (oV_Words_skipBlanks.1 (58, .if_icmp .eq 10) (ip_lk_mem rfl)) (by decide) (fun q => (z_forget (k0 q) (And.intro rfl (And.intro rfl trivial)))) (fun q => (k1 q))
set_option maxRecDepth 100000 in
theorem b_Words_skipBlanks_61 {l : Launch} {Gr : zG} {n w : Nat} {d : Nat} {S : zS} {Q : Option Value → zS → Prop} {x1 : Int32} {x2 : Int32}  (k0 : x2 = 10 → zW l Gr (zc n w) 168 M_Words_skipBlanks d 68 [some (.ref 70), some (.int x1), none] [] S Q) (k1 : ¬ x2 = 10 → zW l Gr (zc n w) 168 M_Words_skipBlanks d 67 [none, none, none] [] S Q) : zW l Gr (zc n w) 168 M_Words_skipBlanks d 61 [some (.ref 70), some (.int x1), some (.int x2)] [] S Q := by
  refine z_go (Gr := Gr) (zc := zc n w) (K := 168) oV_Words_skipBlanks 2 (pc' := 64) (L' := [some (.ref 70), some (.int x1), some (.int x2)]) (st' := [.int 10, .int x2]) rfl ?_
  exact z_iceq (Gr := Gr) (tgt := 68) (oV_Words_skipBlanks.1 (64, .if_icmp .eq 4) (ip_lk_mem rfl)) (by decide) (fun q => (z_forget (k0 q) (And.intro rfl (And.intro rfl trivial)))) (fun q => (z_forget (k1 q) trivial))
set_option maxRecDepth 100000 in
theorem b_Words_skipBlanks_67 {l : Launch} {Gr : zG} {n w : Nat} {d : Nat} {S : zS} {Q : Option Value → zS → Prop}   (k0 : Q none S) : zW l Gr (zc n w) 168 M_Words_skipBlanks d 67 [none, none, none] [] S Q := by
  exact z_ret (v := none) (oV_Words_skipBlanks.1 (67, .return_) (ip_lk_mem rfl)) k0
theorem e_Words_skipBlanks {l : Launch} {Gr : zG} {n w : Nat} {d : Nat} {S : zS} {R : zS → Prop}  (k : zW l Gr (zc n w) 168 M_Words_skipBlanks d 0 [some (.ref 70), none, none] [] S (fun v S' => v = none ∧ R S')) : zMv l Gr (zc n w) 168 M_Words_skipBlanks d [.ref 70] S R := z_mv oM_Words_skipBlanks rfl (Nat.le_of_ble_eq_true rfl) k
set_option maxRecDepth 100000 in
theorem b_Words_advance_0 {l : Launch} {Gr : zG} {n w : Nat} {d : Nat} {S : zS} {Q : Option Value → zS → Prop} {R : zS → Prop} (hg : ip_gk (lg_tbl, vwCl, Gr))   (k0 : zMv l Gr (zc n w) 168 M_Words_skipBlanks d [.ref 70] S R) (k1 : ∀ S', R S' → zW l Gr (zc n w) 168 M_Words_advance (d + 1) 4 [some (.ref 70), none] [] S' Q) : zW l Gr (zc n w) 168 M_Words_advance (d + 1) 0 [some (.ref 70), none] [] S Q := by
  refine z_go (Gr := Gr) (zc := zc n w) (K := 168) oV_Words_advance 1 (pc' := 1) (L' := [some (.ref 70), none]) (st' := [.ref 70]) rfl ?_
  exact z_callV (Gr := Gr) hg.2.2.1 fT oM_Words_skipBlanks (oV_Words_advance.1 (1, .invokevirtual 25) (ip_lk_mem rfl)) ⟨tt_3 _ (List.mem_of_getElem? (i := 180) rfl) rfl, tt_3 _ (List.mem_of_getElem? (i := 182) rfl) rfl, fS_Words_skipBlanks⟩ (c := 38) (ci := 10) (As := []) rfl rfl rfl (by decide) rfl (Nat.le_of_ble_eq_true rfl) k0 (fun v S' q => by obtain ⟨rfl, q⟩ := q; exact (k1 _ q))
set_option maxRecDepth 100000 in
theorem b_Words_advance_4 {l : Launch} {Gr : zG} {n w : Nat} {d : Nat} {S : zS} {Q : Option Value → zS → Prop}   (k0 : (S.1 38 4) < (S.1 38 1) → zW l Gr (zc n w) 168 M_Words_advance (d + 1) 29 [some (.ref 70), none] [] (zi S 38 3 (S.1 38 4)) Q) (k1 : ¬ (S.1 38 4) < (S.1 38 1) → zW l Gr (zc n w) 168 M_Words_advance (d + 1) 23 [some (.ref 70), none] [] (zi S 38 3 (S.1 38 4)) Q) : zW l Gr (zc n w) 168 M_Words_advance (d + 1) 4 [some (.ref 70), none] [] S Q := by
  refine z_go (Gr := Gr) (zc := zc n w) (K := 168) oV_Words_advance 3 (pc' := 9) (L' := [some (.ref 70), none]) (st' := [.int (S.1 38 4), .ref 70]) rfl ?_
  refine z_putI (Gr := Gr) (c := 38) (oV_Words_advance.1 (9, .putfield 28) (ip_lk_mem rfl)) (oV_Words_advance.2.1 (28, 10, 3, .int, false) (ip_lk_mem rfl)).1 (by decide) (zo_38 _ _ _ _) (zs_38_3 _ _ _ _ _) (zn_38_3 _ _ _ _) rfl ?_
  refine z_go (Gr := Gr) (zc := zc n w) (K := 168) oV_Words_advance 1 (pc' := 13) (L' := [some (.ref 70), none]) (st' := [.ref 70]) rfl ?_
  refine z_getI (Gr := Gr) (c := 38) (oV_Words_advance.1 (13, .getfield 28) (ip_lk_mem rfl)) (oV_Words_advance.2.1 (28, 10, 3, .int, false) (ip_lk_mem rfl)).1 (by decide) (zo_38 _ _ _ _) (zg_38_3 _ _ _ _) zi_v ?_
  refine z_go (Gr := Gr) (zc := zc n w) (K := 168) oV_Words_advance 1 (pc' := 17) (L' := [some (.ref 70), none]) (st' := [.ref 70, .int (S.1 38 4)]) rfl ?_
  refine z_getI (Gr := Gr) (c := 38) (oV_Words_advance.1 (17, .getfield 15) (ip_lk_mem rfl)) (oV_Words_advance.2.1 (15, 10, 1, .int, false) (ip_lk_mem rfl)).1 (by decide) (zo_38 _ _ _ _) (zg_38_1 _ _ _ _) (zi_k (by decide)) ?_
  exact z_iclt (Gr := Gr) (tgt := 29) (oV_Words_advance.1 (20, .if_icmp .lt 9) (ip_lk_mem rfl)) (by decide) (fun q => (k0 q)) (fun q => (k1 q))
set_option maxRecDepth 100000 in
theorem b_Words_advance_29 {l : Launch} {Gr : zG} {n w : Nat} {d : Nat} {S : zS} {Q : Option Value → zS → Prop} {R : Int32 → zS → Prop} (hg : ip_gk (lg_tbl, vwCl, Gr))  (g0 : vp_in (S.1 38 3) 4000) (k0 : zMi l Gr (zc n w) 168 M_Words_isDigit d [.int (S.1 2 (((S.1 38 3) : Int32).toNatClampNeg))] S R) (k1 : ∀ v S', R v S' → zW l Gr (zc n w) 168 M_Words_advance (d + 1) 43 [some (.ref 70), some (.int (S.1 2 (((S.1 38 3) : Int32).toNatClampNeg)))] [.int v] S' Q) : zW l Gr (zc n w) 168 M_Words_advance (d + 1) 29 [some (.ref 70), none] [] S Q := by
  refine z_go (Gr := Gr) (zc := zc n w) (K := 168) oV_Words_advance 4 (pc' := 37) (L' := [some (.ref 70), none]) (st' := [.int (S.1 38 3), .ref 34]) rfl ?_
  refine z_bald (Gr := Gr) (c := 2) (oV_Words_advance.1 (37, .baload) (ip_lk_mem rfl)) (by decide) rfl g0 ?_
  refine z_go (Gr := Gr) (zc := zc n w) (K := 168) oV_Words_advance 2 (pc' := 40) (L' := [some (.ref 70), some (.int (S.1 2 (((S.1 38 3) : Int32).toNatClampNeg)))]) (st' := [.int (S.1 2 (((S.1 38 3) : Int32).toNatClampNeg))]) rfl ?_
  exact z_callS (Gr := Gr) hg.2.2.1 fT oM_Words_isDigit (oV_Words_advance.1 (40, .invokestatic 34) (ip_lk_mem rfl)) ⟨tt_3 _ (List.mem_of_getElem? (i := 184) rfl) rfl, tt_3 _ (List.mem_of_getElem? (i := 185) rfl) rfl⟩ (As := [.int (S.1 2 (((S.1 38 3) : Int32).toNatClampNeg))]) rfl (Nat.le_of_ble_eq_true rfl) k0 (fun v S' q => by obtain ⟨x, rfl, q⟩ := q; exact (k1 _ _ q))
set_option maxRecDepth 100000 in
theorem b_Words_advance_23 {l : Launch} {Gr : zG} {n w : Nat} {d : Nat} {S : zS} {Q : Option Value → zS → Prop}   (k0 : Q none (zi S 38 2 0)) : zW l Gr (zc n w) 168 M_Words_advance (d + 1) 23 [some (.ref 70), none] [] S Q := by
  refine z_go (Gr := Gr) (zc := zc n w) (K := 168) oV_Words_advance 2 (pc' := 25) (L' := [some (.ref 70), none]) (st' := [.int 0, .ref 70]) rfl ?_
  refine z_putI (Gr := Gr) (c := 38) (oV_Words_advance.1 (25, .putfield 31) (ip_lk_mem rfl)) (oV_Words_advance.2.1 (31, 10, 2, .int, false) (ip_lk_mem rfl)).1 (by decide) (zo_38 _ _ _ _) (zs_38_2 _ _ _ _ _) (zn_38_2 _ _ _ _) rfl ?_
  exact z_ret (v := none) (oV_Words_advance.1 (28, .return_) (ip_lk_mem rfl)) k0
set_option maxRecDepth 100000 in
theorem b_Words_advance_43 {l : Launch} {Gr : zG} {n w : Nat} {d : Nat} {S : zS} {Q : Option Value → zS → Prop} {x1 : Int32} {s0 : Int32}  (k0 : s0 = 0 → zW l Gr (zc n w) 168 M_Words_advance (d + 1) 93 [some (.ref 70), some (.int x1)] [] S Q) (k1 : ¬ s0 = 0 → zW l Gr (zc n w) 168 M_Words_advance (d + 1) 46 [some (.ref 70), none] [] S Q) : zW l Gr (zc n w) 168 M_Words_advance (d + 1) 43 [some (.ref 70), some (.int x1)] [.int s0] S Q := by
  exact z_ifeq (Gr := Gr) (tgt := 93) (oV_Words_advance.1 (43, .ifCond .eq 50) (ip_lk_mem rfl)) (by decide) (fun q => (k0 q)) (fun q => (z_forget (k1 q) (And.intro rfl trivial)))
set_option maxRecDepth 100000 in
theorem b_Words_advance_93 {l : Launch} {Gr : zG} {n w : Nat} {d : Nat} {S : zS} {Q : Option Value → zS → Prop} {R : Int32 → zS → Prop} (hg : ip_gk (lg_tbl, vwCl, Gr)) {x1 : Int32}  (k0 : zMi l Gr (zc n w) 168 M_Words_isNameByte d [.int x1] S R) (k1 : ∀ v S', R v S' → zW l Gr (zc n w) 168 M_Words_advance (d + 1) 97 [some (.ref 70), some (.int x1)] [.int v] S' Q) : zW l Gr (zc n w) 168 M_Words_advance (d + 1) 93 [some (.ref 70), some (.int x1)] [] S Q := by
  refine z_go (Gr := Gr) (zc := zc n w) (K := 168) oV_Words_advance 1 (pc' := 94) (L' := [some (.ref 70), some (.int x1)]) (st' := [.int x1]) rfl ?_
  exact z_callS (Gr := Gr) hg.2.2.1 fT oM_Words_isNameByte (oV_Words_advance.1 (94, .invokestatic 38) (ip_lk_mem rfl)) ⟨tt_3 _ (List.mem_of_getElem? (i := 187) rfl) rfl, tt_3 _ (List.mem_of_getElem? (i := 188) rfl) rfl⟩ (As := [.int x1]) rfl (Nat.le_of_ble_eq_true rfl) k0 (fun v S' q => by obtain ⟨x, rfl, q⟩ := q; exact (k1 _ _ q))
set_option maxRecDepth 100000 in
theorem b_Words_advance_46 {l : Launch} {Gr : zG} {n w : Nat} {d : Nat} {S : zS} {Q : Option Value → zS → Prop}   (k0 : (S.1 38 1) ≤ (S.1 38 4) → zW l Gr (zc n w) 168 M_Words_advance (d + 1) 85 [some (.ref 70), none] [] S Q) (k1 : ¬ (S.1 38 1) ≤ (S.1 38 4) → zW l Gr (zc n w) 168 M_Words_advance (d + 1) 57 [some (.ref 70), none] [] S Q) : zW l Gr (zc n w) 168 M_Words_advance (d + 1) 46 [some (.ref 70), none] [] S Q := by
  refine z_go (Gr := Gr) (zc := zc n w) (K := 168) oV_Words_advance 4 (pc' := 54) (L' := [some (.ref 70), none]) (st' := [.int (S.1 38 1), .int (S.1 38 4)]) rfl ?_
  exact z_icge (Gr := Gr) (tgt := 85) (oV_Words_advance.1 (54, .if_icmp .ge 31) (ip_lk_mem rfl)) (by decide) (fun q => (k0 q)) (fun q => (k1 q))
set_option maxRecDepth 100000 in
theorem b_Words_advance_97 {l : Launch} {Gr : zG} {n w : Nat} {d : Nat} {S : zS} {Q : Option Value → zS → Prop} {x1 : Int32} {s0 : Int32}  (k0 : s0 = 0 → zW l Gr (zc n w) 168 M_Words_advance (d + 1) 150 [some (.ref 70), some (.int x1)] [] S Q) (k1 : ¬ s0 = 0 → zW l Gr (zc n w) 168 M_Words_advance (d + 1) 100 [some (.ref 70), none] [] S Q) : zW l Gr (zc n w) 168 M_Words_advance (d + 1) 97 [some (.ref 70), some (.int x1)] [.int s0] S Q := by
  exact z_ifeq (Gr := Gr) (tgt := 150) (oV_Words_advance.1 (97, .ifCond .eq 53) (ip_lk_mem rfl)) (by decide) (fun q => (k0 q)) (fun q => (z_forget (k1 q) (And.intro rfl trivial)))
set_option maxRecDepth 100000 in
theorem b_Words_advance_85 {l : Launch} {Gr : zG} {n w : Nat} {d : Nat} {S : zS} {Q : Option Value → zS → Prop}   (k0 : zW l Gr (zc n w) 168 M_Words_advance (d + 1) 208 [none, none] [] (zi S 38 2 2) Q) : zW l Gr (zc n w) 168 M_Words_advance (d + 1) 85 [some (.ref 70), none] [] S Q := by
  refine z_go (Gr := Gr) (zc := zc n w) (K := 168) oV_Words_advance 2 (pc' := 87) (L' := [some (.ref 70), none]) (st' := [.int 2, .ref 70]) rfl ?_
  refine z_putI (Gr := Gr) (c := 38) (oV_Words_advance.1 (87, .putfield 31) (ip_lk_mem rfl)) (oV_Words_advance.2.1 (31, 10, 2, .int, false) (ip_lk_mem rfl)).1 (by decide) (zo_38 _ _ _ _) (zs_38_2 _ _ _ _ _) (zn_38_2 _ _ _ _) rfl ?_
  refine z_go (Gr := Gr) (zc := zc n w) (K := 168) oV_Words_advance 1 (pc' := 208) (L' := [some (.ref 70), none]) (st' := []) rfl ?_
  exact (z_forget k0 trivial)
set_option maxRecDepth 100000 in
theorem b_Words_advance_57 {l : Launch} {Gr : zG} {n w : Nat} {d : Nat} {S : zS} {Q : Option Value → zS → Prop} {R : Int32 → zS → Prop} (hg : ip_gk (lg_tbl, vwCl, Gr))  (g0 : vp_in (S.1 38 4) 4000) (k0 : zMi l Gr (zc n w) 168 M_Words_isDigit d [.int (S.1 2 (((S.1 38 4) : Int32).toNatClampNeg))] S R) (k1 : ∀ v S', R v S' → zW l Gr (zc n w) 168 M_Words_advance (d + 1) 69 [some (.ref 70), none] [.int v] S' Q) : zW l Gr (zc n w) 168 M_Words_advance (d + 1) 57 [some (.ref 70), none] [] S Q := by
  refine z_go (Gr := Gr) (zc := zc n w) (K := 168) oV_Words_advance 4 (pc' := 65) (L' := [some (.ref 70), none]) (st' := [.int (S.1 38 4), .ref 34]) rfl ?_
  refine z_bald (Gr := Gr) (c := 2) (oV_Words_advance.1 (65, .baload) (ip_lk_mem rfl)) (by decide) rfl g0 ?_
  exact z_callS (Gr := Gr) hg.2.2.1 fT oM_Words_isDigit (oV_Words_advance.1 (66, .invokestatic 34) (ip_lk_mem rfl)) ⟨tt_3 _ (List.mem_of_getElem? (i := 184) rfl) rfl, tt_3 _ (List.mem_of_getElem? (i := 185) rfl) rfl⟩ (As := [.int (S.1 2 (((S.1 38 4) : Int32).toNatClampNeg))]) rfl (Nat.le_of_ble_eq_true rfl) k0 (fun v S' q => by obtain ⟨x, rfl, q⟩ := q; exact (k1 _ _ q))
set_option maxRecDepth 100000 in
theorem b_Words_advance_150 {l : Launch} {Gr : zG} {n w : Nat} {d : Nat} {S : zS} {Q : Option Value → zS → Prop} {x1 : Int32}  (k0 : (S.1 38 1) ≤ ((S.1 38 3) + 1) → zW l Gr (zc n w) 168 M_Words_advance (d + 1) 179 [some (.ref 70), some (.int x1)] [.int x1, .ref 70] S Q) (k1 : ¬ (S.1 38 1) ≤ ((S.1 38 3) + 1) → zW l Gr (zc n w) 168 M_Words_advance (d + 1) 165 [some (.ref 70), some (.int x1)] [.int x1, .ref 70] S Q) : zW l Gr (zc n w) 168 M_Words_advance (d + 1) 150 [some (.ref 70), some (.int x1)] [] S Q := by
  refine z_go (Gr := Gr) (zc := zc n w) (K := 168) oV_Words_advance 8 (pc' := 162) (L' := [some (.ref 70), some (.int x1)]) (st' := [.int (S.1 38 1), .int ((S.1 38 3) + 1), .int x1, .ref 70]) rfl ?_
  exact z_icge (Gr := Gr) (tgt := 179) (oV_Words_advance.1 (162, .if_icmp .ge 17) (ip_lk_mem rfl)) (by decide) (fun q => (k0 q)) (fun q => (k1 q))
set_option maxRecDepth 100000 in
theorem b_Words_advance_100 {l : Launch} {Gr : zG} {n w : Nat} {d : Nat} {S : zS} {Q : Option Value → zS → Prop}   (k0 : (S.1 38 1) ≤ (S.1 38 4) → zW l Gr (zc n w) 168 M_Words_advance (d + 1) 139 [some (.ref 70), none] [] S Q) (k1 : ¬ (S.1 38 1) ≤ (S.1 38 4) → zW l Gr (zc n w) 168 M_Words_advance (d + 1) 111 [some (.ref 70), none] [] S Q) : zW l Gr (zc n w) 168 M_Words_advance (d + 1) 100 [some (.ref 70), none] [] S Q := by
  refine z_go (Gr := Gr) (zc := zc n w) (K := 168) oV_Words_advance 4 (pc' := 108) (L' := [some (.ref 70), none]) (st' := [.int (S.1 38 1), .int (S.1 38 4)]) rfl ?_
  exact z_icge (Gr := Gr) (tgt := 139) (oV_Words_advance.1 (108, .if_icmp .ge 31) (ip_lk_mem rfl)) (by decide) (fun q => (k0 q)) (fun q => (k1 q))
set_option maxRecDepth 100000 in
theorem b_Words_advance_208 {l : Launch} {Gr : zG} {n w : Nat} {d : Nat} {S : zS} {Q : Option Value → zS → Prop}   (k0 : Q none S) : zW l Gr (zc n w) 168 M_Words_advance (d + 1) 208 [none, none] [] S Q := by
  exact z_ret (v := none) (oV_Words_advance.1 (208, .return_) (ip_lk_mem rfl)) k0
set_option maxRecDepth 100000 in
theorem b_Words_advance_69 {l : Launch} {Gr : zG} {n w : Nat} {d : Nat} {S : zS} {Q : Option Value → zS → Prop} {s0 : Int32}  (k0 : s0 = 0 → zW l Gr (zc n w) 168 M_Words_advance (d + 1) 85 [some (.ref 70), none] [] S Q) (k1 : ¬ s0 = 0 → zW l Gr (zc n w) 168 M_Words_advance (d + 1) 72 [some (.ref 70), none] [] S Q) : zW l Gr (zc n w) 168 M_Words_advance (d + 1) 69 [some (.ref 70), none] [.int s0] S Q := by
  exact z_ifeq (Gr := Gr) (tgt := 85) (oV_Words_advance.1 (69, .ifCond .eq 16) (ip_lk_mem rfl)) (by decide) (fun q => (k0 q)) (fun q => (k1 q))
set_option maxRecDepth 100000 in
theorem b_Words_advance_179 {l : Launch} {Gr : zG} {n w : Nat} {d : Nat} {S : zS} {Q : Option Value → zS → Prop} {x1 : Int32} {s0 : Int32}  (k0 : zW l Gr (zc n w) 168 M_Words_advance (d + 1) 180 [some (.ref 70), some (.int x1)] [.int 0, .int s0, .ref 70] S Q) : zW l Gr (zc n w) 168 M_Words_advance (d + 1) 179 [some (.ref 70), some (.int x1)] [.int s0, .ref 70] S Q := by
  refine z_go (Gr := Gr) (zc := zc n w) (K := 168) oV_Words_advance 1 (pc' := 180) (L' := [some (.ref 70), some (.int x1)]) (st' := [.int 0, .int s0, .ref 70]) rfl ?_
  exact k0
set_option maxRecDepth 100000 in
theorem b_Words_advance_165 {l : Launch} {Gr : zG} {n w : Nat} {d : Nat} {S : zS} {Q : Option Value → zS → Prop} {x1 : Int32} {s0 : Int32} (g0 : vp_in ((S.1 38 3) + 1) 4000) (k0 : zW l Gr (zc n w) 168 M_Words_advance (d + 1) 180 [some (.ref 70), some (.int x1)] [.int (S.1 2 ((((S.1 38 3) + 1) : Int32).toNatClampNeg)), .int s0, .ref 70] S Q) : zW l Gr (zc n w) 168 M_Words_advance (d + 1) 165 [some (.ref 70), some (.int x1)] [.int s0, .ref 70] S Q := by
  refine z_go (Gr := Gr) (zc := zc n w) (K := 168) oV_Words_advance 6 (pc' := 175) (L' := [some (.ref 70), some (.int x1)]) (st' := [.int ((S.1 38 3) + 1), .ref 34, .int s0, .ref 70]) rfl ?_
  refine z_bald (Gr := Gr) (c := 2) (oV_Words_advance.1 (175, .baload) (ip_lk_mem rfl)) (by decide) rfl g0 ?_
  refine z_go (Gr := Gr) (zc := zc n w) (K := 168) oV_Words_advance 1 (pc' := 180) (L' := [some (.ref 70), some (.int x1)]) (st' := [.int (S.1 2 ((((S.1 38 3) + 1) : Int32).toNatClampNeg)), .int s0, .ref 70]) rfl ?_
  exact k0
set_option maxRecDepth 100000 in
theorem b_Words_advance_139 {l : Launch} {Gr : zG} {n w : Nat} {d : Nat} {S : zS} {Q : Option Value → zS → Prop} {R : Int32 → zS → Prop} (hg : ip_gk (lg_tbl, vwCl, Gr))   (k0 : zMi l Gr (zc n w) 168 M_Words_wordKind d [.ref 70] S R) (k1 : ∀ v S', R v S' → zW l Gr (zc n w) 168 M_Words_advance (d + 1) 144 [none, none] [.int v, .ref 70] S' Q) : zW l Gr (zc n w) 168 M_Words_advance (d + 1) 139 [some (.ref 70), none] [] S Q := by
  refine z_go (Gr := Gr) (zc := zc n w) (K := 168) oV_Words_advance 2 (pc' := 141) (L' := [some (.ref 70), none]) (st' := [.ref 70, .ref 70]) rfl ?_
  exact z_callV (Gr := Gr) hg.2.2.1 fT oM_Words_wordKind (oV_Words_advance.1 (141, .invokevirtual 41) (ip_lk_mem rfl)) ⟨tt_3 _ (List.mem_of_getElem? (i := 190) rfl) rfl, tt_3 _ (List.mem_of_getElem? (i := 192) rfl) rfl, fS_Words_wordKind⟩ (c := 38) (ci := 10) (As := []) rfl rfl rfl (by decide) rfl (Nat.le_of_ble_eq_true rfl) k0 (fun v S' q => by obtain ⟨x, rfl, q⟩ := q; exact (z_forget (k1 _ _ q) trivial))
set_option maxRecDepth 100000 in
theorem b_Words_advance_111 {l : Launch} {Gr : zG} {n w : Nat} {d : Nat} {S : zS} {Q : Option Value → zS → Prop} {R : Int32 → zS → Prop} (hg : ip_gk (lg_tbl, vwCl, Gr))  (g0 : vp_in (S.1 38 4) 4000) (k0 : zMi l Gr (zc n w) 168 M_Words_isNameByte d [.int (S.1 2 (((S.1 38 4) : Int32).toNatClampNeg))] S R) (k1 : ∀ v S', R v S' → zW l Gr (zc n w) 168 M_Words_advance (d + 1) 123 [some (.ref 70), none] [.int v] S' Q) : zW l Gr (zc n w) 168 M_Words_advance (d + 1) 111 [some (.ref 70), none] [] S Q := by
  refine z_go (Gr := Gr) (zc := zc n w) (K := 168) oV_Words_advance 4 (pc' := 119) (L' := [some (.ref 70), none]) (st' := [.int (S.1 38 4), .ref 34]) rfl ?_
  refine z_bald (Gr := Gr) (c := 2) (oV_Words_advance.1 (119, .baload) (ip_lk_mem rfl)) (by decide) rfl g0 ?_
  exact z_callS (Gr := Gr) hg.2.2.1 fT oM_Words_isNameByte (oV_Words_advance.1 (120, .invokestatic 38) (ip_lk_mem rfl)) ⟨tt_3 _ (List.mem_of_getElem? (i := 187) rfl) rfl, tt_3 _ (List.mem_of_getElem? (i := 188) rfl) rfl⟩ (As := [.int (S.1 2 (((S.1 38 4) : Int32).toNatClampNeg))]) rfl (Nat.le_of_ble_eq_true rfl) k0 (fun v S' q => by obtain ⟨x, rfl, q⟩ := q; exact (k1 _ _ q))
set_option maxRecDepth 100000 in
theorem b_Words_advance_72 {l : Launch} {Gr : zG} {n w : Nat} {d : Nat} {S : zS} {Q : Option Value → zS → Prop}   (k0 : zW l Gr (zc n w) 168 M_Words_advance (d + 1) 46 [some (.ref 70), none] [] (zi S 38 4 ((S.1 38 4) + 1)) Q) : zW l Gr (zc n w) 168 M_Words_advance (d + 1) 72 [some (.ref 70), none] [] S Q := by
  refine z_go (Gr := Gr) (zc := zc n w) (K := 168) oV_Words_advance 5 (pc' := 79) (L' := [some (.ref 70), none]) (st' := [.int ((S.1 38 4) + 1), .ref 70]) rfl ?_
  refine z_putI (Gr := Gr) (c := 38) (oV_Words_advance.1 (79, .putfield 19) (ip_lk_mem rfl)) (oV_Words_advance.2.1 (19, 10, 4, .int, false) (ip_lk_mem rfl)).1 (by decide) (zo_38 _ _ _ _) (zs_38_4 _ _ _ _ _) (zn_38_4 _ _ _ _) rfl ?_
  refine z_go (Gr := Gr) (zc := zc n w) (K := 168) oV_Words_advance 1 (pc' := 46) (L' := [some (.ref 70), none]) (st' := []) rfl ?_
  exact k0
set_option maxRecDepth 100000 in
theorem b_Words_advance_180 {l : Launch} {Gr : zG} {n w : Nat} {d : Nat} {S : zS} {Q : Option Value → zS → Prop} {R : Int32 → zS → Prop} (hg : ip_gk (lg_tbl, vwCl, Gr)) {x1 : Int32} {s0 : Int32} {s1 : Int32}  (k0 : zMi l Gr (zc n w) 168 M_Words_signKind d [.int s1, .int s0] S R) (k1 : ∀ v S', R v S' → zW l Gr (zc n w) 168 M_Words_advance (d + 1) 183 [some (.ref 70), some (.int x1)] [.int v, .ref 70] S' Q) : zW l Gr (zc n w) 168 M_Words_advance (d + 1) 180 [some (.ref 70), some (.int x1)] [.int s0, .int s1, .ref 70] S Q := by
  exact z_callS (Gr := Gr) hg.2.2.1 fT oM_Words_signKind (oV_Words_advance.1 (180, .invokestatic 45) (ip_lk_mem rfl)) ⟨tt_4 _ (List.mem_of_getElem? (i := 3) rfl) rfl, tt_4 _ (List.mem_of_getElem? (i := 4) rfl) rfl⟩ (As := [.int s1, .int s0]) rfl (Nat.le_of_ble_eq_true rfl) k0 (fun v S' q => by obtain ⟨x, rfl, q⟩ := q; exact (k1 _ _ q))
set_option maxRecDepth 100000 in
theorem b_Words_advance_144 {l : Launch} {Gr : zG} {n w : Nat} {d : Nat} {S : zS} {Q : Option Value → zS → Prop} {s0 : Int32}  (k0 : zW l Gr (zc n w) 168 M_Words_advance (d + 1) 208 [none, none] [] (zi S 38 2 s0) Q) : zW l Gr (zc n w) 168 M_Words_advance (d + 1) 144 [none, none] [.int s0, .ref 70] S Q := by
  refine z_putI (Gr := Gr) (c := 38) (oV_Words_advance.1 (144, .putfield 31) (ip_lk_mem rfl)) (oV_Words_advance.2.1 (31, 10, 2, .int, false) (ip_lk_mem rfl)).1 (by decide) (zo_38 _ _ _ _) (zs_38_2 _ _ _ _ _) (zn_38_2 _ _ _ _) rfl ?_
  refine z_go (Gr := Gr) (zc := zc n w) (K := 168) oV_Words_advance 1 (pc' := 208) (L' := [none, none]) (st' := []) rfl ?_
  exact k0
set_option maxRecDepth 100000 in
theorem b_Words_advance_123 {l : Launch} {Gr : zG} {n w : Nat} {d : Nat} {S : zS} {Q : Option Value → zS → Prop} {s0 : Int32}  (k0 : s0 = 0 → zW l Gr (zc n w) 168 M_Words_advance (d + 1) 139 [some (.ref 70), none] [] S Q) (k1 : ¬ s0 = 0 → zW l Gr (zc n w) 168 M_Words_advance (d + 1) 126 [some (.ref 70), none] [] S Q) : zW l Gr (zc n w) 168 M_Words_advance (d + 1) 123 [some (.ref 70), none] [.int s0] S Q := by
  exact z_ifeq (Gr := Gr) (tgt := 139) (oV_Words_advance.1 (123, .ifCond .eq 16) (ip_lk_mem rfl)) (by decide) (fun q => (k0 q)) (fun q => (k1 q))
set_option maxRecDepth 100000 in
theorem b_Words_advance_183 {l : Launch} {Gr : zG} {n w : Nat} {d : Nat} {S : zS} {Q : Option Value → zS → Prop} {x1 : Int32} {s0 : Int32}  (k0 : ¬ s0 = x1 → zW l Gr (zc n w) 168 M_Words_advance (d + 1) 203 [none, none] [.int (S.1 38 3), .ref 70] (zi S 38 2 s0) Q) (k1 : s0 = x1 → zW l Gr (zc n w) 168 M_Words_advance (d + 1) 199 [none, none] [.int (S.1 38 3), .ref 70] (zi S 38 2 s0) Q) : zW l Gr (zc n w) 168 M_Words_advance (d + 1) 183 [some (.ref 70), some (.int x1)] [.int s0, .ref 70] S Q := by
  refine z_putI (Gr := Gr) (c := 38) (oV_Words_advance.1 (183, .putfield 31) (ip_lk_mem rfl)) (oV_Words_advance.2.1 (31, 10, 2, .int, false) (ip_lk_mem rfl)).1 (by decide) (zo_38 _ _ _ _) (zs_38_2 _ _ _ _ _) (zn_38_2 _ _ _ _) rfl ?_
  refine z_go (Gr := Gr) (zc := zc n w) (K := 168) oV_Words_advance 2 (pc' := 188) (L' := [some (.ref 70), some (.int x1)]) (st' := [.ref 70, .ref 70]) rfl ?_
  refine z_getI (Gr := Gr) (c := 38) (oV_Words_advance.1 (188, .getfield 28) (ip_lk_mem rfl)) (oV_Words_advance.2.1 (28, 10, 3, .int, false) (ip_lk_mem rfl)).1 (by decide) (zo_38 _ _ _ _) (zg_38_3 _ _ _ _) (zi_k (by decide)) ?_
  refine z_go (Gr := Gr) (zc := zc n w) (K := 168) oV_Words_advance 1 (pc' := 192) (L' := [some (.ref 70), some (.int x1)]) (st' := [.ref 70, .int (S.1 38 3), .ref 70]) rfl ?_
  refine z_getI (Gr := Gr) (c := 38) (oV_Words_advance.1 (192, .getfield 31) (ip_lk_mem rfl)) (oV_Words_advance.2.1 (31, 10, 2, .int, false) (ip_lk_mem rfl)).1 (by decide) (zo_38 _ _ _ _) (zg_38_2 _ _ _ _) zi_v ?_
  refine z_go (Gr := Gr) (zc := zc n w) (K := 168) oV_Words_advance 1 (pc' := 196) (L' := [some (.ref 70), some (.int x1)]) (st' := [.int x1, .int s0, .int (S.1 38 3), .ref 70]) rfl ?_
  exact z_icne (Gr := Gr) (tgt := 203) (oV_Words_advance.1 (196, .if_icmp .ne 7) (ip_lk_mem rfl)) (by decide) (fun q => (z_forget (k0 q) trivial)) (fun q => (z_forget (k1 q) trivial))
set_option maxRecDepth 100000 in
theorem b_Words_advance_126 {l : Launch} {Gr : zG} {n w : Nat} {d : Nat} {S : zS} {Q : Option Value → zS → Prop}   (k0 : zW l Gr (zc n w) 168 M_Words_advance (d + 1) 100 [some (.ref 70), none] [] (zi S 38 4 ((S.1 38 4) + 1)) Q) : zW l Gr (zc n w) 168 M_Words_advance (d + 1) 126 [some (.ref 70), none] [] S Q := by
  refine z_go (Gr := Gr) (zc := zc n w) (K := 168) oV_Words_advance 5 (pc' := 133) (L' := [some (.ref 70), none]) (st' := [.int ((S.1 38 4) + 1), .ref 70]) rfl ?_
  refine z_putI (Gr := Gr) (c := 38) (oV_Words_advance.1 (133, .putfield 19) (ip_lk_mem rfl)) (oV_Words_advance.2.1 (19, 10, 4, .int, false) (ip_lk_mem rfl)).1 (by decide) (zo_38 _ _ _ _) (zs_38_4 _ _ _ _ _) (zn_38_4 _ _ _ _) rfl ?_
  refine z_go (Gr := Gr) (zc := zc n w) (K := 168) oV_Words_advance 1 (pc' := 100) (L' := [some (.ref 70), none]) (st' := []) rfl ?_
  exact k0
set_option maxRecDepth 100000 in
theorem b_Words_advance_203 {l : Launch} {Gr : zG} {n w : Nat} {d : Nat} {S : zS} {Q : Option Value → zS → Prop} {s0 : Int32}  (k0 : zW l Gr (zc n w) 168 M_Words_advance (d + 1) 204 [none, none] [.int 2, .int s0, .ref 70] S Q) : zW l Gr (zc n w) 168 M_Words_advance (d + 1) 203 [none, none] [.int s0, .ref 70] S Q := by
  refine z_go (Gr := Gr) (zc := zc n w) (K := 168) oV_Words_advance 1 (pc' := 204) (L' := [none, none]) (st' := [.int 2, .int s0, .ref 70]) rfl ?_
  exact k0
set_option maxRecDepth 100000 in
theorem b_Words_advance_199 {l : Launch} {Gr : zG} {n w : Nat} {d : Nat} {S : zS} {Q : Option Value → zS → Prop} {s0 : Int32}  (k0 : zW l Gr (zc n w) 168 M_Words_advance (d + 1) 204 [none, none] [.int 1, .int s0, .ref 70] S Q) : zW l Gr (zc n w) 168 M_Words_advance (d + 1) 199 [none, none] [.int s0, .ref 70] S Q := by
  refine z_go (Gr := Gr) (zc := zc n w) (K := 168) oV_Words_advance 2 (pc' := 204) (L' := [none, none]) (st' := [.int 1, .int s0, .ref 70]) rfl ?_
  exact k0
set_option maxRecDepth 100000 in
theorem b_Words_advance_204 {l : Launch} {Gr : zG} {n w : Nat} {d : Nat} {S : zS} {Q : Option Value → zS → Prop} {s0 : Int32} {s1 : Int32}  (k0 : zW l Gr (zc n w) 168 M_Words_advance (d + 1) 208 [none, none] [] (zi S 38 4 (s1 + s0)) Q) : zW l Gr (zc n w) 168 M_Words_advance (d + 1) 204 [none, none] [.int s0, .int s1, .ref 70] S Q := by
  refine z_go (Gr := Gr) (zc := zc n w) (K := 168) oV_Words_advance 1 (pc' := 205) (L' := [none, none]) (st' := [.int (s1 + s0), .ref 70]) rfl ?_
  refine z_putI (Gr := Gr) (c := 38) (oV_Words_advance.1 (205, .putfield 19) (ip_lk_mem rfl)) (oV_Words_advance.2.1 (19, 10, 4, .int, false) (ip_lk_mem rfl)).1 (by decide) (zo_38 _ _ _ _) (zs_38_4 _ _ _ _ _) (zn_38_4 _ _ _ _) rfl ?_
  exact k0
theorem e_Words_advance {l : Launch} {Gr : zG} {n w : Nat} {d : Nat} {S : zS} {R : zS → Prop}  (k : zW l Gr (zc n w) 168 M_Words_advance (d + 1) 0 [some (.ref 70), none] [] S (fun v S' => v = none ∧ R S')) : zMv l Gr (zc n w) 168 M_Words_advance (d + 1) [.ref 70] S R := z_mv oM_Words_advance rfl (Nat.le_of_ble_eq_true rfl) k
set_option maxRecDepth 100000 in
theorem b_Words_begin_0 {l : Launch} {Gr : zG} {n w : Nat} {d : Nat} {S : zS} {Q : Option Value → zS → Prop} {R : zS → Prop} (hg : ip_gk (lg_tbl, vwCl, Gr)) {x1 : Int32}  (k0 : zMv l Gr (zc n w) 168 M_Words_advance d [.ref 70] (zi (zi S 38 1 x1) 38 4 0) R) (k1 : ∀ S', R S' → zW l Gr (zc n w) 168 M_Words_begin (d + 1) 14 [none, none] [] S' Q) : zW l Gr (zc n w) 168 M_Words_begin (d + 1) 0 [some (.ref 70), some (.int x1)] [] S Q := by
  refine z_go (Gr := Gr) (zc := zc n w) (K := 168) oV_Words_begin 2 (pc' := 2) (L' := [some (.ref 70), some (.int x1)]) (st' := [.int x1, .ref 70]) rfl ?_
  refine z_putI (Gr := Gr) (c := 38) (oV_Words_begin.1 (2, .putfield 15) (ip_lk_mem rfl)) (oV_Words_begin.2.1 (15, 10, 1, .int, false) (ip_lk_mem rfl)).1 (by decide) (zo_38 _ _ _ _) (zs_38_1 _ _ _ _ _) (zn_38_1 _ _ _ _) rfl ?_
  refine z_go (Gr := Gr) (zc := zc n w) (K := 168) oV_Words_begin 2 (pc' := 7) (L' := [some (.ref 70), some (.int x1)]) (st' := [.int 0, .ref 70]) rfl ?_
  refine z_putI (Gr := Gr) (c := 38) (oV_Words_begin.1 (7, .putfield 19) (ip_lk_mem rfl)) (oV_Words_begin.2.1 (19, 10, 4, .int, false) (ip_lk_mem rfl)).1 (by decide) (zo_38 _ _ _ _) (zs_38_4 _ _ _ _ _) (zn_38_4 _ _ _ _) rfl ?_
  refine z_go (Gr := Gr) (zc := zc n w) (K := 168) oV_Words_begin 1 (pc' := 11) (L' := [some (.ref 70), some (.int x1)]) (st' := [.ref 70]) rfl ?_
  exact z_callV (Gr := Gr) hg.2.2.1 fT oM_Words_advance (oV_Words_begin.1 (11, .invokevirtual 22) (ip_lk_mem rfl)) ⟨tt_3 _ (List.mem_of_getElem? (i := 176) rfl) rfl, tt_3 _ (List.mem_of_getElem? (i := 177) rfl) rfl, tt_3 _ (List.mem_of_getElem? (i := 178) rfl) rfl⟩ (c := 38) (ci := 10) (As := []) rfl rfl rfl (by decide) rfl (Nat.le_of_ble_eq_true rfl) k0 (fun v S' q => by obtain ⟨rfl, q⟩ := q; exact (z_forget (k1 _ q) trivial))
set_option maxRecDepth 100000 in
theorem b_Words_begin_14 {l : Launch} {Gr : zG} {n w : Nat} {d : Nat} {S : zS} {Q : Option Value → zS → Prop}   (k0 : Q none S) : zW l Gr (zc n w) 168 M_Words_begin (d + 1) 14 [none, none] [] S Q := by
  exact z_ret (v := none) (oV_Words_begin.1 (14, .return_) (ip_lk_mem rfl)) k0
theorem e_Words_begin {l : Launch} {Gr : zG} {n w : Nat} {d : Nat} {S : zS} {R : zS → Prop} {x1 : Int32} (k : zW l Gr (zc n w) 168 M_Words_begin (d + 1) 0 [some (.ref 70), some (.int x1)] [] S (fun v S' => v = none ∧ R S')) : zMv l Gr (zc n w) 168 M_Words_begin (d + 1) [.ref 70, .int x1] S R := z_mv oM_Words_begin rfl (Nat.le_of_ble_eq_true rfl) k
set_option maxRecDepth 100000 in
theorem b_Reader_readProgram_0 {l : Launch} {Gr : zG} {n w : Nat} {d : Nat} {S : zS} {Q : Option Value → zS → Prop} {R : zS → Prop} (hg : ip_gk (lg_tbl, vwCl, Gr)) {x1 : Int32}  (k0 : zMv l Gr (zc n w) 168 M_Words_begin d [.ref 70, .int x1] (zi (zi S 34 9 0) 34 10 0) R) (k1 : ∀ S', R S' → zW l Gr (zc n w) 168 M_Reader_readProgram (d + 1) 18 [some (.ref 66), some (.int x1), none] [] S' Q) : zW l Gr (zc n w) 168 M_Reader_readProgram (d + 1) 0 [some (.ref 66), some (.int x1), none] [] S Q := by
  refine z_go (Gr := Gr) (zc := zc n w) (K := 168) oV_Reader_readProgram 2 (pc' := 2) (L' := [some (.ref 66), some (.int x1), none]) (st' := [.int 0, .ref 66]) rfl ?_
  refine z_putI (Gr := Gr) (c := 34) (oV_Reader_readProgram.1 (2, .putfield 51) (ip_lk_mem rfl)) (oV_Reader_readProgram.2.1 (51, 8, 9, .int, false) (ip_lk_mem rfl)).1 (by decide) (zo_34 _ _ _ _) (zs_34_9 _ _ _ _ _) (zn_34_9 _ _ _ _) rfl ?_
  refine z_go (Gr := Gr) (zc := zc n w) (K := 168) oV_Reader_readProgram 2 (pc' := 7) (L' := [some (.ref 66), some (.int x1), none]) (st' := [.int 0, .ref 66]) rfl ?_
  refine z_putI (Gr := Gr) (c := 34) (oV_Reader_readProgram.1 (7, .putfield 54) (ip_lk_mem rfl)) (oV_Reader_readProgram.2.1 (54, 8, 10, .int, false) (ip_lk_mem rfl)).1 (by decide) (zo_34 _ _ _ _) (zs_34_10 _ _ _ _ _) (zn_34_10 _ _ _ _) rfl ?_
  refine z_go (Gr := Gr) (zc := zc n w) (K := 168) oV_Reader_readProgram 3 (pc' := 15) (L' := [some (.ref 66), some (.int x1), none]) (st' := [.int x1, .ref 70]) rfl ?_
  exact z_callV (Gr := Gr) hg.2.2.1 fT oM_Words_begin (oV_Reader_readProgram.1 (15, .invokevirtual 57) (ip_lk_mem rfl)) ⟨tt_3 _ (List.mem_of_getElem? (i := 172) rfl) rfl, tt_3 _ (List.mem_of_getElem? (i := 173) rfl) rfl, tt_3 _ (List.mem_of_getElem? (i := 174) rfl) rfl⟩ (c := 38) (ci := 10) (As := [.int x1]) rfl rfl rfl (by decide) rfl (Nat.le_of_ble_eq_true rfl) k0 (fun v S' q => by obtain ⟨rfl, q⟩ := q; exact (k1 _ q))
set_option maxRecDepth 100000 in
theorem b_Reader_readProgram_18 {l : Launch} {Gr : zG} {n w : Nat} {d : Nat} {S : zS} {Q : Option Value → zS → Prop} {x1 : Int32}  (k0 : zW l Gr (zc n w) 168 M_Reader_readProgram (d + 1) 20 [some (.ref 66), some (.int x1), some (.int 0)] [] S Q) : zW l Gr (zc n w) 168 M_Reader_readProgram (d + 1) 18 [some (.ref 66), some (.int x1), none] [] S Q := by
  refine z_go (Gr := Gr) (zc := zc n w) (K := 168) oV_Reader_readProgram 2 (pc' := 20) (L' := [some (.ref 66), some (.int x1), some (.int 0)]) (st' := []) rfl ?_
  exact k0
set_option maxRecDepth 100000 in
theorem b_Reader_readProgram_20 {l : Launch} {Gr : zG} {n w : Nat} {d : Nat} {S : zS} {Q : Option Value → zS → Prop} {x1 : Int32} {x2 : Int32}  (k0 : x1 < x2 → zW l Gr (zc n w) 168 M_Reader_readProgram (d + 1) 120 [none, none, none] [] S Q) (k1 : ¬ x1 < x2 → zW l Gr (zc n w) 168 M_Reader_readProgram (d + 1) 25 [some (.ref 66), some (.int x1), some (.int x2)] [] S Q) : zW l Gr (zc n w) 168 M_Reader_readProgram (d + 1) 20 [some (.ref 66), some (.int x1), some (.int x2)] [] S Q := by
  refine z_go (Gr := Gr) (zc := zc n w) (K := 168) oV_Reader_readProgram 2 (pc' := 22) (L' := [some (.ref 66), some (.int x1), some (.int x2)]) (st' := [.int x1, .int x2]) rfl ?_
  exact z_icgt (Gr := Gr) (tgt := 120) (oV_Reader_readProgram.1 (22, .if_icmp .gt 98) (ip_lk_mem rfl)) (by decide) (fun q => (z_forget (k0 q) trivial)) (fun q => (k1 q))
set_option maxRecDepth 100000 in
theorem b_Reader_readProgram_120 {l : Launch} {Gr : zG} {n w : Nat} {d : Nat} {S : zS} {Q : Option Value → zS → Prop}   (k0 : Q none S) : zW l Gr (zc n w) 168 M_Reader_readProgram (d + 1) 120 [none, none, none] [] S Q := by
  exact z_ret (v := none) (oV_Reader_readProgram.1 (120, .return_) (ip_lk_mem rfl)) k0
set_option maxRecDepth 100000 in
theorem b_Reader_readProgram_25 {l : Launch} {Gr : zG} {n w : Nat} {d : Nat} {S : zS} {Q : Option Value → zS → Prop} {x1 : Int32} {x2 : Int32}  (k0 : ¬ (S.1 3 5) = 0 → zW l Gr (zc n w) 168 M_Reader_readProgram (d + 1) 120 [none, none, none] [] S Q) (k1 : (S.1 3 5) = 0 → zW l Gr (zc n w) 168 M_Reader_readProgram (d + 1) 35 [some (.ref 66), some (.int x1), some (.int x2)] [] S Q) : zW l Gr (zc n w) 168 M_Reader_readProgram (d + 1) 25 [some (.ref 66), some (.int x1), some (.int x2)] [] S Q := by
  refine z_go (Gr := Gr) (zc := zc n w) (K := 168) oV_Reader_readProgram 3 (pc' := 32) (L' := [some (.ref 66), some (.int x1), some (.int x2)]) (st' := [.int (S.1 3 5)]) rfl ?_
  exact z_ifne (Gr := Gr) (tgt := 120) (oV_Reader_readProgram.1 (32, .ifCond .ne 88) (ip_lk_mem rfl)) (by decide) (fun q => (z_forget (k0 q) trivial)) (fun q => (k1 q))
set_option maxRecDepth 100000 in
theorem b_Reader_readProgram_35 {l : Launch} {Gr : zG} {n w : Nat} {d : Nat} {S : zS} {Q : Option Value → zS → Prop} {x1 : Int32} {x2 : Int32}  (k0 : (S.1 38 2) = 0 → zW l Gr (zc n w) 168 M_Reader_readProgram (d + 1) 120 [none, none, none] [] S Q) (k1 : ¬ (S.1 38 2) = 0 → zW l Gr (zc n w) 168 M_Reader_readProgram (d + 1) 45 [some (.ref 66), some (.int x1), some (.int x2)] [] S Q) : zW l Gr (zc n w) 168 M_Reader_readProgram (d + 1) 35 [some (.ref 66), some (.int x1), some (.int x2)] [] S Q := by
  refine z_go (Gr := Gr) (zc := zc n w) (K := 168) oV_Reader_readProgram 3 (pc' := 42) (L' := [some (.ref 66), some (.int x1), some (.int x2)]) (st' := [.int (S.1 38 2)]) rfl ?_
  exact z_ifeq (Gr := Gr) (tgt := 120) (oV_Reader_readProgram.1 (42, .ifCond .eq 78) (ip_lk_mem rfl)) (by decide) (fun q => (z_forget (k0 q) trivial)) (fun q => (k1 q))
set_option maxRecDepth 100000 in
theorem b_Reader_readProgram_45 {l : Launch} {Gr : zG} {n w : Nat} {d : Nat} {S : zS} {Q : Option Value → zS → Prop} {x1 : Int32} {x2 : Int32}  (k0 : (S.1 38 2) = 200 → zW l Gr (zc n w) 168 M_Reader_readProgram (d + 1) 88 [some (.ref 66), some (.int x1), some (.int x2)] [] S Q) (k1 : (S.1 38 2) = 203 → zW l Gr (zc n w) 168 M_Reader_readProgram (d + 1) 95 [some (.ref 66), some (.int x1), some (.int x2)] [] S Q) (k2 : (S.1 38 2) = 208 → zW l Gr (zc n w) 168 M_Reader_readProgram (d + 1) 102 [some (.ref 66), some (.int x1), some (.int x2)] [] S Q) (k3 : ¬ (S.1 38 2) = 200 → ¬ (S.1 38 2) = 203 → ¬ (S.1 38 2) = 208 → zW l Gr (zc n w) 168 M_Reader_readProgram (d + 1) 109 [some (.ref 66), some (.int x1), some (.int x2)] [] S Q) : zW l Gr (zc n w) 168 M_Reader_readProgram (d + 1) 45 [some (.ref 66), some (.int x1), some (.int x2)] [] S Q := by
  refine z_go (Gr := Gr) (zc := zc n w) (K := 168) oV_Reader_readProgram 3 (pc' := 52) (L' := [some (.ref 66), some (.int x1), some (.int x2)]) (st' := [.int (S.1 38 2)]) rfl ?_
  by_cases q0 : (S.1 38 2) = 200
  · exact z_lkp (Gr := Gr) (tgt := 88) (off := 36) (oV_Reader_readProgram.1 (52, .lookupswitch 57 #[(200, 36), (203, 43), (208, 50)]) (ip_lk_mem rfl)) (by decide) (by rw [q0]; decide) (by decide) (k0 q0)
  by_cases q1 : (S.1 38 2) = 203
  · exact z_lkp (Gr := Gr) (tgt := 95) (off := 43) (oV_Reader_readProgram.1 (52, .lookupswitch 57 #[(200, 36), (203, 43), (208, 50)]) (ip_lk_mem rfl)) (by decide) (by rw [q1]; decide) (by decide) (k1 q1)
  by_cases q2 : (S.1 38 2) = 208
  · exact z_lkp (Gr := Gr) (tgt := 102) (off := 50) (oV_Reader_readProgram.1 (52, .lookupswitch 57 #[(200, 36), (203, 43), (208, 50)]) (ip_lk_mem rfl)) (by decide) (by rw [q2]; decide) (by decide) (k2 q2)
  have r0 : ¬ 200 = ((S.1 38 2)).toInt := fun h => q0 (Int32.toInt_inj.mp h.symm)
  have r1 : ¬ 203 = ((S.1 38 2)).toInt := fun h => q1 (Int32.toInt_inj.mp h.symm)
  have r2 : ¬ 208 = ((S.1 38 2)).toInt := fun h => q2 (Int32.toInt_inj.mp h.symm)
  exact z_lkp (Gr := Gr) (tgt := 109) (off := 57) (oV_Reader_readProgram.1 (52, .lookupswitch 57 #[(200, 36), (203, 43), (208, 50)]) (ip_lk_mem rfl)) (by decide) (by simp [Op.lookupswitch.offset, r0, r1, r2]) (by decide) (k3 q0 q1 q2)
set_option maxRecDepth 100000 in
theorem b_Reader_readProgram_109 {l : Launch} {Gr : zG} {n w : Nat} {d : Nat} {S : zS} {Q : Option Value → zS → Prop} {R : zS → Prop} (hg : ip_gk (lg_tbl, vwCl, Gr)) {x1 : Int32} {x2 : Int32}  (k0 : zMv l Gr (zc n w) 168 M_Reader_readStatement d [.ref 66, .int 0] S R) (k1 : ∀ S', R S' → zW l Gr (zc n w) 168 M_Reader_readProgram (d + 1) 114 [some (.ref 66), some (.int x1), some (.int x2)] [] S' Q) : zW l Gr (zc n w) 168 M_Reader_readProgram (d + 1) 109 [some (.ref 66), some (.int x1), some (.int x2)] [] S Q := by
  refine z_go (Gr := Gr) (zc := zc n w) (K := 168) oV_Reader_readProgram 2 (pc' := 111) (L' := [some (.ref 66), some (.int x1), some (.int x2)]) (st' := [.int 0, .ref 66]) rfl ?_
  exact z_callV (Gr := Gr) hg.2.2.1 fT oM_Reader_readStatement (oV_Reader_readProgram.1 (111, .invokevirtual 76) (ip_lk_mem rfl)) ⟨tt_4 _ (List.mem_of_getElem? (i := 128) rfl) rfl, tt_4 _ (List.mem_of_getElem? (i := 130) rfl) rfl, fS_Reader_readStatement⟩ (c := 34) (ci := 8) (As := [.int 0]) rfl rfl rfl (by decide) rfl (Nat.le_of_ble_eq_true rfl) k0 (fun v S' q => by obtain ⟨rfl, q⟩ := q; exact (k1 _ q))
set_option maxRecDepth 100000 in
theorem b_Reader_readProgram_88 {l : Launch} {Gr : zG} {n w : Nat} {d : Nat} {S : zS} {Q : Option Value → zS → Prop} {R : zS → Prop} (hg : ip_gk (lg_tbl, vwCl, Gr)) {x1 : Int32} {x2 : Int32}  (k0 : zMv l Gr (zc n w) 168 M_Reader_readInput d [.ref 66] S R) (k1 : ∀ S', R S' → zW l Gr (zc n w) 168 M_Reader_readProgram (d + 1) 92 [some (.ref 66), some (.int x1), some (.int x2)] [] S' Q) : zW l Gr (zc n w) 168 M_Reader_readProgram (d + 1) 88 [some (.ref 66), some (.int x1), some (.int x2)] [] S Q := by
  refine z_go (Gr := Gr) (zc := zc n w) (K := 168) oV_Reader_readProgram 1 (pc' := 89) (L' := [some (.ref 66), some (.int x1), some (.int x2)]) (st' := [.ref 66]) rfl ?_
  exact z_callV (Gr := Gr) hg.2.2.1 fT oM_Reader_readInput (oV_Reader_readProgram.1 (89, .invokevirtual 67) (ip_lk_mem rfl)) ⟨tt_4 _ (List.mem_of_getElem? (i := 6) rfl) rfl, tt_4 _ (List.mem_of_getElem? (i := 8) rfl) rfl, fS_Reader_readInput⟩ (c := 34) (ci := 8) (As := []) rfl rfl rfl (by decide) rfl (Nat.le_of_ble_eq_true rfl) k0 (fun v S' q => by obtain ⟨rfl, q⟩ := q; exact (k1 _ q))
set_option maxRecDepth 100000 in
theorem b_Reader_readProgram_95 {l : Launch} {Gr : zG} {n w : Nat} {d : Nat} {S : zS} {Q : Option Value → zS → Prop} {R : zS → Prop} (hg : ip_gk (lg_tbl, vwCl, Gr)) {x1 : Int32} {x2 : Int32}  (k0 : zMv l Gr (zc n w) 168 M_Reader_readDef d [.ref 66] S R) (k1 : ∀ S', R S' → zW l Gr (zc n w) 168 M_Reader_readProgram (d + 1) 99 [some (.ref 66), some (.int x1), some (.int x2)] [] S' Q) : zW l Gr (zc n w) 168 M_Reader_readProgram (d + 1) 95 [some (.ref 66), some (.int x1), some (.int x2)] [] S Q := by
  refine z_go (Gr := Gr) (zc := zc n w) (K := 168) oV_Reader_readProgram 1 (pc' := 96) (L' := [some (.ref 66), some (.int x1), some (.int x2)]) (st' := [.ref 66]) rfl ?_
  exact z_callV (Gr := Gr) hg.2.2.1 fT oM_Reader_readDef (oV_Reader_readProgram.1 (96, .invokevirtual 70) (ip_lk_mem rfl)) ⟨tt_4 _ (List.mem_of_getElem? (i := 70) rfl) rfl, tt_4 _ (List.mem_of_getElem? (i := 72) rfl) rfl, fS_Reader_readDef⟩ (c := 34) (ci := 8) (As := []) rfl rfl rfl (by decide) rfl (Nat.le_of_ble_eq_true rfl) k0 (fun v S' q => by obtain ⟨rfl, q⟩ := q; exact (k1 _ q))
set_option maxRecDepth 100000 in
theorem b_Reader_readProgram_102 {l : Launch} {Gr : zG} {n w : Nat} {d : Nat} {S : zS} {Q : Option Value → zS → Prop} {R : zS → Prop} (hg : ip_gk (lg_tbl, vwCl, Gr)) {x1 : Int32} {x2 : Int32}  (k0 : zMv l Gr (zc n w) 168 M_Reader_readOutput d [.ref 66] S R) (k1 : ∀ S', R S' → zW l Gr (zc n w) 168 M_Reader_readProgram (d + 1) 106 [some (.ref 66), some (.int x1), some (.int x2)] [] S' Q) : zW l Gr (zc n w) 168 M_Reader_readProgram (d + 1) 102 [some (.ref 66), some (.int x1), some (.int x2)] [] S Q := by
  refine z_go (Gr := Gr) (zc := zc n w) (K := 168) oV_Reader_readProgram 1 (pc' := 103) (L' := [some (.ref 66), some (.int x1), some (.int x2)]) (st' := [.ref 66]) rfl ?_
  exact z_callV (Gr := Gr) hg.2.2.1 fT oM_Reader_readOutput (oV_Reader_readProgram.1 (103, .invokevirtual 73) (ip_lk_mem rfl)) ⟨tt_4 _ (List.mem_of_getElem? (i := 124) rfl) rfl, tt_4 _ (List.mem_of_getElem? (i := 126) rfl) rfl, fS_Reader_readOutput⟩ (c := 34) (ci := 8) (As := []) rfl rfl rfl (by decide) rfl (Nat.le_of_ble_eq_true rfl) k0 (fun v S' q => by obtain ⟨rfl, q⟩ := q; exact (k1 _ q))
set_option maxRecDepth 100000 in
theorem b_Reader_readProgram_114 {l : Launch} {Gr : zG} {n w : Nat} {d : Nat} {S : zS} {Q : Option Value → zS → Prop} {x1 : Int32} {x2 : Int32}  (k0 : zW l Gr (zc n w) 168 M_Reader_readProgram (d + 1) 20 [some (.ref 66), some (.int x1), some (.int (x2 + Int32.ofInt 1))] [] S Q) : zW l Gr (zc n w) 168 M_Reader_readProgram (d + 1) 114 [some (.ref 66), some (.int x1), some (.int x2)] [] S Q := by
  refine z_go (Gr := Gr) (zc := zc n w) (K := 168) oV_Reader_readProgram 2 (pc' := 20) (L' := [some (.ref 66), some (.int x1), some (.int (x2 + Int32.ofInt 1))]) (st' := []) rfl ?_
  exact k0
set_option maxRecDepth 100000 in
theorem b_Reader_readProgram_92 {l : Launch} {Gr : zG} {n w : Nat} {d : Nat} {S : zS} {Q : Option Value → zS → Prop} {x1 : Int32} {x2 : Int32}  (k0 : zW l Gr (zc n w) 168 M_Reader_readProgram (d + 1) 114 [some (.ref 66), some (.int x1), some (.int x2)] [] S Q) : zW l Gr (zc n w) 168 M_Reader_readProgram (d + 1) 92 [some (.ref 66), some (.int x1), some (.int x2)] [] S Q := by
  refine z_go (Gr := Gr) (zc := zc n w) (K := 168) oV_Reader_readProgram 1 (pc' := 114) (L' := [some (.ref 66), some (.int x1), some (.int x2)]) (st' := []) rfl ?_
  exact k0
set_option maxRecDepth 100000 in
theorem b_Reader_readProgram_99 {l : Launch} {Gr : zG} {n w : Nat} {d : Nat} {S : zS} {Q : Option Value → zS → Prop} {x1 : Int32} {x2 : Int32}  (k0 : zW l Gr (zc n w) 168 M_Reader_readProgram (d + 1) 114 [some (.ref 66), some (.int x1), some (.int x2)] [] S Q) : zW l Gr (zc n w) 168 M_Reader_readProgram (d + 1) 99 [some (.ref 66), some (.int x1), some (.int x2)] [] S Q := by
  refine z_go (Gr := Gr) (zc := zc n w) (K := 168) oV_Reader_readProgram 1 (pc' := 114) (L' := [some (.ref 66), some (.int x1), some (.int x2)]) (st' := []) rfl ?_
  exact k0
set_option maxRecDepth 100000 in
theorem b_Reader_readProgram_106 {l : Launch} {Gr : zG} {n w : Nat} {d : Nat} {S : zS} {Q : Option Value → zS → Prop} {x1 : Int32} {x2 : Int32}  (k0 : zW l Gr (zc n w) 168 M_Reader_readProgram (d + 1) 114 [some (.ref 66), some (.int x1), some (.int x2)] [] S Q) : zW l Gr (zc n w) 168 M_Reader_readProgram (d + 1) 106 [some (.ref 66), some (.int x1), some (.int x2)] [] S Q := by
  refine z_go (Gr := Gr) (zc := zc n w) (K := 168) oV_Reader_readProgram 1 (pc' := 114) (L' := [some (.ref 66), some (.int x1), some (.int x2)]) (st' := []) rfl ?_
  exact k0
theorem e_Reader_readProgram {l : Launch} {Gr : zG} {n w : Nat} {d : Nat} {S : zS} {R : zS → Prop} {x1 : Int32} (k : zW l Gr (zc n w) 168 M_Reader_readProgram (d + 1) 0 [some (.ref 66), some (.int x1), none] [] S (fun v S' => v = none ∧ R S')) : zMv l Gr (zc n w) 168 M_Reader_readProgram (d + 1) [.ref 66, .int x1] S R := z_mv oM_Reader_readProgram rfl (Nat.le_of_ble_eq_true rfl) k
set_option maxRecDepth 100000 in
theorem b_Sorts_check_0 {l : Launch} {Gr : zG} {n w : Nat} {d : Nat} {S : zS} {Q : Option Value → zS → Prop}   (k0 : zW l Gr (zc n w) 168 M_Sorts_check (d + 1) 22 [some (.ref 71), some (.int 0), none] [] (zi (zi (zi (zi S 39 3 0) 39 5 0) 39 9 0) 39 10 0) Q) : zW l Gr (zc n w) 168 M_Sorts_check (d + 1) 0 [some (.ref 71), none, none] [] S Q := by
  refine z_go (Gr := Gr) (zc := zc n w) (K := 168) oV_Sorts_check 2 (pc' := 2) (L' := [some (.ref 71), none, none]) (st' := [.int 0, .ref 71]) rfl ?_
  refine z_putI (Gr := Gr) (c := 39) (oV_Sorts_check.1 (2, .putfield 37) (ip_lk_mem rfl)) (oV_Sorts_check.2.1 (37, 9, 3, .int, false) (ip_lk_mem rfl)).1 (by decide) (zo_39 _ _ _ _) (zs_39_3 _ _ _ _ _) (zn_39_3 _ _ _ _) rfl ?_
  refine z_go (Gr := Gr) (zc := zc n w) (K := 168) oV_Sorts_check 2 (pc' := 7) (L' := [some (.ref 71), none, none]) (st' := [.int 0, .ref 71]) rfl ?_
  refine z_putI (Gr := Gr) (c := 39) (oV_Sorts_check.1 (7, .putfield 41) (ip_lk_mem rfl)) (oV_Sorts_check.2.1 (41, 9, 5, .int, false) (ip_lk_mem rfl)).1 (by decide) (zo_39 _ _ _ _) (zs_39_5 _ _ _ _ _) (zn_39_5 _ _ _ _) rfl ?_
  refine z_go (Gr := Gr) (zc := zc n w) (K := 168) oV_Sorts_check 2 (pc' := 12) (L' := [some (.ref 71), none, none]) (st' := [.int 0, .ref 71]) rfl ?_
  refine z_putI (Gr := Gr) (c := 39) (oV_Sorts_check.1 (12, .putfield 44) (ip_lk_mem rfl)) (oV_Sorts_check.2.1 (44, 9, 9, .int, false) (ip_lk_mem rfl)).1 (by decide) (zo_39 _ _ _ _) (zs_39_9 _ _ _ _ _) (zn_39_9 _ _ _ _) rfl ?_
  refine z_go (Gr := Gr) (zc := zc n w) (K := 168) oV_Sorts_check 2 (pc' := 17) (L' := [some (.ref 71), none, none]) (st' := [.int 0, .ref 71]) rfl ?_
  refine z_putI (Gr := Gr) (c := 39) (oV_Sorts_check.1 (17, .putfield 47) (ip_lk_mem rfl)) (oV_Sorts_check.2.1 (47, 9, 10, .int, false) (ip_lk_mem rfl)).1 (by decide) (zo_39 _ _ _ _) (zs_39_10 _ _ _ _ _) (zn_39_10 _ _ _ _) rfl ?_
  refine z_go (Gr := Gr) (zc := zc n w) (K := 168) oV_Sorts_check 2 (pc' := 22) (L' := [some (.ref 71), some (.int 0), none]) (st' := []) rfl ?_
  exact k0
set_option maxRecDepth 100000 in
theorem b_Sorts_check_22 {l : Launch} {Gr : zG} {n w : Nat} {d : Nat} {S : zS} {Q : Option Value → zS → Prop} {x1 : Int32}  (k0 : (S.1 3 4) ≤ x1 → zW l Gr (zc n w) 168 M_Sorts_check (d + 1) 110 [none, none, none] [] S Q) (k1 : ¬ (S.1 3 4) ≤ x1 → zW l Gr (zc n w) 168 M_Sorts_check (d + 1) 33 [some (.ref 71), some (.int x1), none] [] S Q) : zW l Gr (zc n w) 168 M_Sorts_check (d + 1) 22 [some (.ref 71), some (.int x1), none] [] S Q := by
  refine z_go (Gr := Gr) (zc := zc n w) (K := 168) oV_Sorts_check 4 (pc' := 30) (L' := [some (.ref 71), some (.int x1), none]) (st' := [.int (S.1 3 4), .int x1]) rfl ?_
  exact z_icge (Gr := Gr) (tgt := 110) (oV_Sorts_check.1 (30, .if_icmp .ge 80) (ip_lk_mem rfl)) (by decide) (fun q => (z_forget (k0 q) trivial)) (fun q => (k1 q))
set_option maxRecDepth 100000 in
theorem b_Sorts_check_110 {l : Launch} {Gr : zG} {n w : Nat} {d : Nat} {S : zS} {Q : Option Value → zS → Prop}   (k0 : Q none S) : zW l Gr (zc n w) 168 M_Sorts_check (d + 1) 110 [none, none, none] [] S Q := by
  exact z_ret (v := none) (oV_Sorts_check.1 (110, .return_) (ip_lk_mem rfl)) k0
set_option maxRecDepth 100000 in
theorem b_Sorts_check_33 {l : Launch} {Gr : zG} {n w : Nat} {d : Nat} {S : zS} {Q : Option Value → zS → Prop} {x1 : Int32}  (k0 : ¬ (S.1 3 5) = 0 → zW l Gr (zc n w) 168 M_Sorts_check (d + 1) 110 [none, none, none] [] S Q) (k1 : (S.1 3 5) = 0 → zW l Gr (zc n w) 168 M_Sorts_check (d + 1) 43 [some (.ref 71), some (.int x1), none] [] S Q) : zW l Gr (zc n w) 168 M_Sorts_check (d + 1) 33 [some (.ref 71), some (.int x1), none] [] S Q := by
  refine z_go (Gr := Gr) (zc := zc n w) (K := 168) oV_Sorts_check 3 (pc' := 40) (L' := [some (.ref 71), some (.int x1), none]) (st' := [.int (S.1 3 5)]) rfl ?_
  exact z_ifne (Gr := Gr) (tgt := 110) (oV_Sorts_check.1 (40, .ifCond .ne 70) (ip_lk_mem rfl)) (by decide) (fun q => (z_forget (k0 q) trivial)) (fun q => (k1 q))
set_option maxRecDepth 100000 in
theorem b_Sorts_check_43 {l : Launch} {Gr : zG} {n w : Nat} {d : Nat} {S : zS} {Q : Option Value → zS → Prop} {x1 : Int32} (g0 : vp_in x1 4000) (k0 : 20 < (S.1 4 ((x1 : Int32).toNatClampNeg)) → zW l Gr (zc n w) 168 M_Sorts_check (d + 1) 68 [some (.ref 71), some (.int x1), some (.int (S.1 4 ((x1 : Int32).toNatClampNeg)))] [] S Q) (k1 : ¬ 20 < (S.1 4 ((x1 : Int32).toNatClampNeg)) → zW l Gr (zc n w) 168 M_Sorts_check (d + 1) 59 [some (.ref 71), some (.int x1), some (.int (S.1 4 ((x1 : Int32).toNatClampNeg)))] [] S Q) : zW l Gr (zc n w) 168 M_Sorts_check (d + 1) 43 [some (.ref 71), some (.int x1), none] [] S Q := by
  refine z_go (Gr := Gr) (zc := zc n w) (K := 168) oV_Sorts_check 4 (pc' := 51) (L' := [some (.ref 71), some (.int x1), none]) (st' := [.int x1, .ref 36]) rfl ?_
  refine z_iald (Gr := Gr) (c := 4) (oV_Sorts_check.1 (51, .iaload) (ip_lk_mem rfl)) (by decide) rfl g0 ?_
  refine z_go (Gr := Gr) (zc := zc n w) (K := 168) oV_Sorts_check 3 (pc' := 56) (L' := [some (.ref 71), some (.int x1), some (.int (S.1 4 ((x1 : Int32).toNatClampNeg)))]) (st' := [.int 20, .int (S.1 4 ((x1 : Int32).toNatClampNeg))]) rfl ?_
  exact z_icgt (Gr := Gr) (tgt := 68) (oV_Sorts_check.1 (56, .if_icmp .gt 12) (ip_lk_mem rfl)) (by decide) (fun q => (k0 q)) (fun q => (k1 q))
set_option maxRecDepth 100000 in
theorem b_Sorts_check_68 {l : Launch} {Gr : zG} {n w : Nat} {d : Nat} {S : zS} {Q : Option Value → zS → Prop} {x1 : Int32} {x2 : Int32}  (k0 : 33 < x2 → zW l Gr (zc n w) 168 M_Sorts_check (d + 1) 83 [some (.ref 71), some (.int x1), some (.int x2)] [] S Q) (k1 : ¬ 33 < x2 → zW l Gr (zc n w) 168 M_Sorts_check (d + 1) 74 [some (.ref 71), some (.int x1), some (.int x2)] [] S Q) : zW l Gr (zc n w) 168 M_Sorts_check (d + 1) 68 [some (.ref 71), some (.int x1), some (.int x2)] [] S Q := by
  refine z_go (Gr := Gr) (zc := zc n w) (K := 168) oV_Sorts_check 2 (pc' := 71) (L' := [some (.ref 71), some (.int x1), some (.int x2)]) (st' := [.int 33, .int x2]) rfl ?_
  exact z_icgt (Gr := Gr) (tgt := 83) (oV_Sorts_check.1 (71, .if_icmp .gt 12) (ip_lk_mem rfl)) (by decide) (fun q => (k0 q)) (fun q => (k1 q))
set_option maxRecDepth 100000 in
theorem b_Sorts_check_59 {l : Launch} {Gr : zG} {n w : Nat} {d : Nat} {S : zS} {Q : Option Value → zS → Prop} {R : zS → Prop} (hg : ip_gk (lg_tbl, vwCl, Gr)) {x1 : Int32} {x2 : Int32}  (k0 : zMv l Gr (zc n w) 168 M_Sorts_checkStatement d [.ref 71, .int x1, .int x2] S R) (k1 : ∀ S', R S' → zW l Gr (zc n w) 168 M_Sorts_check (d + 1) 65 [some (.ref 71), some (.int x1), none] [] S' Q) : zW l Gr (zc n w) 168 M_Sorts_check (d + 1) 59 [some (.ref 71), some (.int x1), some (.int x2)] [] S Q := by
  refine z_go (Gr := Gr) (zc := zc n w) (K := 168) oV_Sorts_check 3 (pc' := 62) (L' := [some (.ref 71), some (.int x1), some (.int x2)]) (st' := [.int x2, .int x1, .ref 71]) rfl ?_
  exact z_callV (Gr := Gr) hg.2.2.1 fT oM_Sorts_checkStatement (oV_Sorts_check.1 (62, .invokevirtual 59) (ip_lk_mem rfl)) ⟨tt_4 _ (List.mem_of_getElem? (i := 156) rfl) rfl, tt_4 _ (List.mem_of_getElem? (i := 158) rfl) rfl, fS_Sorts_checkStatement⟩ (c := 39) (ci := 9) (As := [.int x1, .int x2]) rfl rfl rfl (by decide) rfl (Nat.le_of_ble_eq_true rfl) k0 (fun v S' q => by obtain ⟨rfl, q⟩ := q; exact (z_forget (k1 _ q) (And.intro rfl (And.intro rfl trivial))))
set_option maxRecDepth 100000 in
theorem b_Sorts_check_83 {l : Launch} {Gr : zG} {n w : Nat} {d : Nat} {S : zS} {Q : Option Value → zS → Prop} {x1 : Int32} {x2 : Int32}  (k0 : 38 ≤ x2 → zW l Gr (zc n w) 168 M_Sorts_check (d + 1) 98 [some (.ref 71), some (.int x1), some (.int x2)] [] S Q) (k1 : ¬ 38 ≤ x2 → zW l Gr (zc n w) 168 M_Sorts_check (d + 1) 89 [some (.ref 71), some (.int x1), some (.int x2)] [] S Q) : zW l Gr (zc n w) 168 M_Sorts_check (d + 1) 83 [some (.ref 71), some (.int x1), some (.int x2)] [] S Q := by
  refine z_go (Gr := Gr) (zc := zc n w) (K := 168) oV_Sorts_check 2 (pc' := 86) (L' := [some (.ref 71), some (.int x1), some (.int x2)]) (st' := [.int 38, .int x2]) rfl ?_
  exact z_icge (Gr := Gr) (tgt := 98) (oV_Sorts_check.1 (86, .if_icmp .ge 12) (ip_lk_mem rfl)) (by decide) (fun q => (k0 q)) (fun q => (k1 q))
set_option maxRecDepth 100000 in
theorem b_Sorts_check_74 {l : Launch} {Gr : zG} {n w : Nat} {d : Nat} {S : zS} {Q : Option Value → zS → Prop} {R : zS → Prop} (hg : ip_gk (lg_tbl, vwCl, Gr)) {x1 : Int32} {x2 : Int32}  (k0 : zMv l Gr (zc n w) 168 M_Sorts_checkFactor d [.ref 71, .int x1, .int x2] S R) (k1 : ∀ S', R S' → zW l Gr (zc n w) 168 M_Sorts_check (d + 1) 80 [some (.ref 71), some (.int x1), none] [] S' Q) : zW l Gr (zc n w) 168 M_Sorts_check (d + 1) 74 [some (.ref 71), some (.int x1), some (.int x2)] [] S Q := by
  refine z_go (Gr := Gr) (zc := zc n w) (K := 168) oV_Sorts_check 3 (pc' := 77) (L' := [some (.ref 71), some (.int x1), some (.int x2)]) (st' := [.int x2, .int x1, .ref 71]) rfl ?_
  exact z_callV (Gr := Gr) hg.2.2.1 fT oM_Sorts_checkFactor (oV_Sorts_check.1 (77, .invokevirtual 63) (ip_lk_mem rfl)) ⟨tt_5 _ (List.mem_of_getElem? (i := 8) rfl) rfl, tt_5 _ (List.mem_of_getElem? (i := 10) rfl) rfl, fS_Sorts_checkFactor⟩ (c := 39) (ci := 9) (As := [.int x1, .int x2]) rfl rfl rfl (by decide) rfl (Nat.le_of_ble_eq_true rfl) k0 (fun v S' q => by obtain ⟨rfl, q⟩ := q; exact (z_forget (k1 _ q) (And.intro rfl (And.intro rfl trivial))))
set_option maxRecDepth 100000 in
theorem b_Sorts_check_65 {l : Launch} {Gr : zG} {n w : Nat} {d : Nat} {S : zS} {Q : Option Value → zS → Prop} {x1 : Int32}  (k0 : zW l Gr (zc n w) 168 M_Sorts_check (d + 1) 104 [some (.ref 71), some (.int x1), none] [] S Q) : zW l Gr (zc n w) 168 M_Sorts_check (d + 1) 65 [some (.ref 71), some (.int x1), none] [] S Q := by
  refine z_go (Gr := Gr) (zc := zc n w) (K := 168) oV_Sorts_check 1 (pc' := 104) (L' := [some (.ref 71), some (.int x1), none]) (st' := []) rfl ?_
  exact k0
set_option maxRecDepth 100000 in
theorem b_Sorts_check_98 {l : Launch} {Gr : zG} {n w : Nat} {d : Nat} {S : zS} {Q : Option Value → zS → Prop} {R : zS → Prop} (hg : ip_gk (lg_tbl, vwCl, Gr)) {x1 : Int32} {x2 : Int32}  (k0 : zMv l Gr (zc n w) 168 M_Sorts_checkOperator d [.ref 71, .int x1, .int x2] S R) (k1 : ∀ S', R S' → zW l Gr (zc n w) 168 M_Sorts_check (d + 1) 104 [some (.ref 71), some (.int x1), none] [] S' Q) : zW l Gr (zc n w) 168 M_Sorts_check (d + 1) 98 [some (.ref 71), some (.int x1), some (.int x2)] [] S Q := by
  refine z_go (Gr := Gr) (zc := zc n w) (K := 168) oV_Sorts_check 3 (pc' := 101) (L' := [some (.ref 71), some (.int x1), some (.int x2)]) (st' := [.int x2, .int x1, .ref 71]) rfl ?_
  exact z_callV (Gr := Gr) hg.2.2.1 fT oM_Sorts_checkOperator (oV_Sorts_check.1 (101, .invokevirtual 69) (ip_lk_mem rfl)) ⟨tt_5 _ (List.mem_of_getElem? (i := 28) rfl) rfl, tt_5 _ (List.mem_of_getElem? (i := 30) rfl) rfl, fS_Sorts_checkOperator⟩ (c := 39) (ci := 9) (As := [.int x1, .int x2]) rfl rfl rfl (by decide) rfl (Nat.le_of_ble_eq_true rfl) k0 (fun v S' q => by obtain ⟨rfl, q⟩ := q; exact (z_forget (k1 _ q) (And.intro rfl (And.intro rfl trivial))))
set_option maxRecDepth 100000 in
theorem b_Sorts_check_89 {l : Launch} {Gr : zG} {n w : Nat} {d : Nat} {S : zS} {Q : Option Value → zS → Prop} {R : zS → Prop} (hg : ip_gk (lg_tbl, vwCl, Gr)) {x1 : Int32} {x2 : Int32}  (k0 : zMv l Gr (zc n w) 168 M_Sorts_checkSign d [.ref 71, .int x1, .int x2] S R) (k1 : ∀ S', R S' → zW l Gr (zc n w) 168 M_Sorts_check (d + 1) 95 [some (.ref 71), some (.int x1), none] [] S' Q) : zW l Gr (zc n w) 168 M_Sorts_check (d + 1) 89 [some (.ref 71), some (.int x1), some (.int x2)] [] S Q := by
  refine z_go (Gr := Gr) (zc := zc n w) (K := 168) oV_Sorts_check 3 (pc' := 92) (L' := [some (.ref 71), some (.int x1), some (.int x2)]) (st' := [.int x2, .int x1, .ref 71]) rfl ?_
  exact z_callV (Gr := Gr) hg.2.2.1 fT oM_Sorts_checkSign (oV_Sorts_check.1 (92, .invokevirtual 66) (ip_lk_mem rfl)) ⟨tt_5 _ (List.mem_of_getElem? (i := 24) rfl) rfl, tt_5 _ (List.mem_of_getElem? (i := 26) rfl) rfl, fS_Sorts_checkSign⟩ (c := 39) (ci := 9) (As := [.int x1, .int x2]) rfl rfl rfl (by decide) rfl (Nat.le_of_ble_eq_true rfl) k0 (fun v S' q => by obtain ⟨rfl, q⟩ := q; exact (z_forget (k1 _ q) (And.intro rfl (And.intro rfl trivial))))
set_option maxRecDepth 100000 in
theorem b_Sorts_check_80 {l : Launch} {Gr : zG} {n w : Nat} {d : Nat} {S : zS} {Q : Option Value → zS → Prop} {x1 : Int32}  (k0 : zW l Gr (zc n w) 168 M_Sorts_check (d + 1) 104 [some (.ref 71), some (.int x1), none] [] S Q) : zW l Gr (zc n w) 168 M_Sorts_check (d + 1) 80 [some (.ref 71), some (.int x1), none] [] S Q := by
  refine z_go (Gr := Gr) (zc := zc n w) (K := 168) oV_Sorts_check 1 (pc' := 104) (L' := [some (.ref 71), some (.int x1), none]) (st' := []) rfl ?_
  exact k0
set_option maxRecDepth 100000 in
theorem b_Sorts_check_104 {l : Launch} {Gr : zG} {n w : Nat} {d : Nat} {S : zS} {Q : Option Value → zS → Prop} {x1 : Int32}  (k0 : zW l Gr (zc n w) 168 M_Sorts_check (d + 1) 22 [some (.ref 71), some (.int (x1 + Int32.ofInt 1)), none] [] S Q) : zW l Gr (zc n w) 168 M_Sorts_check (d + 1) 104 [some (.ref 71), some (.int x1), none] [] S Q := by
  refine z_go (Gr := Gr) (zc := zc n w) (K := 168) oV_Sorts_check 2 (pc' := 22) (L' := [some (.ref 71), some (.int (x1 + Int32.ofInt 1)), none]) (st' := []) rfl ?_
  exact k0
set_option maxRecDepth 100000 in
theorem b_Sorts_check_95 {l : Launch} {Gr : zG} {n w : Nat} {d : Nat} {S : zS} {Q : Option Value → zS → Prop} {x1 : Int32}  (k0 : zW l Gr (zc n w) 168 M_Sorts_check (d + 1) 104 [some (.ref 71), some (.int x1), none] [] S Q) : zW l Gr (zc n w) 168 M_Sorts_check (d + 1) 95 [some (.ref 71), some (.int x1), none] [] S Q := by
  refine z_go (Gr := Gr) (zc := zc n w) (K := 168) oV_Sorts_check 1 (pc' := 104) (L' := [some (.ref 71), some (.int x1), none]) (st' := []) rfl ?_
  exact k0
theorem e_Sorts_check {l : Launch} {Gr : zG} {n w : Nat} {d : Nat} {S : zS} {R : zS → Prop}  (k : zW l Gr (zc n w) 168 M_Sorts_check (d + 1) 0 [some (.ref 71), none, none] [] S (fun v S' => v = none ∧ R S')) : zMv l Gr (zc n w) 168 M_Sorts_check (d + 1) [.ref 71] S R := z_mv oM_Sorts_check rfl (Nat.le_of_ble_eq_true rfl) k
set_option maxRecDepth 100000 in
theorem b_Circuit_clear_0 {l : Launch} {Gr : zG} {n w : Nat} {d : Nat} {S : zS} {Q : Option Value → zS → Prop} {x1 : Int32}  (k0 : Q none (zi (zi (zi (zi (zi (zi (zi S 24 8 x1) 24 4 0) 24 5 0) 24 6 0) 24 7 0) 24 11 0) 31 ((0 : Int32).toNatClampNeg) 0)) : zW l Gr (zc n w) 168 M_Circuit_clear d 0 [some (.ref 56), some (.int x1)] [] S Q := by
  refine z_go (Gr := Gr) (zc := zc n w) (K := 168) oV_Circuit_clear 2 (pc' := 2) (L' := [some (.ref 56), some (.int x1)]) (st' := [.int x1, .ref 56]) rfl ?_
  refine z_putI (Gr := Gr) (c := 24) (oV_Circuit_clear.1 (2, .putfield 40) (ip_lk_mem rfl)) (oV_Circuit_clear.2.1 (40, 1, 8, .int, false) (ip_lk_mem rfl)).1 (by decide) (zo_24 _ _ _ _) (zs_24_8 _ _ _ _ _) (zn_24_8 _ _ _ _) rfl ?_
  refine z_go (Gr := Gr) (zc := zc n w) (K := 168) oV_Circuit_clear 2 (pc' := 7) (L' := [some (.ref 56), some (.int x1)]) (st' := [.int 0, .ref 56]) rfl ?_
  refine z_putI (Gr := Gr) (c := 24) (oV_Circuit_clear.1 (7, .putfield 44) (ip_lk_mem rfl)) (oV_Circuit_clear.2.1 (44, 1, 4, .int, false) (ip_lk_mem rfl)).1 (by decide) (zo_24 _ _ _ _) (zs_24_4 _ _ _ _ _) (zn_24_4 _ _ _ _) rfl ?_
  refine z_go (Gr := Gr) (zc := zc n w) (K := 168) oV_Circuit_clear 2 (pc' := 12) (L' := [some (.ref 56), some (.int x1)]) (st' := [.int 0, .ref 56]) rfl ?_
  refine z_putI (Gr := Gr) (c := 24) (oV_Circuit_clear.1 (12, .putfield 47) (ip_lk_mem rfl)) (oV_Circuit_clear.2.1 (47, 1, 5, .int, false) (ip_lk_mem rfl)).1 (by decide) (zo_24 _ _ _ _) (zs_24_5 _ _ _ _ _) (zn_24_5 _ _ _ _) rfl ?_
  refine z_go (Gr := Gr) (zc := zc n w) (K := 168) oV_Circuit_clear 2 (pc' := 17) (L' := [some (.ref 56), some (.int x1)]) (st' := [.int 0, .ref 56]) rfl ?_
  refine z_putI (Gr := Gr) (c := 24) (oV_Circuit_clear.1 (17, .putfield 50) (ip_lk_mem rfl)) (oV_Circuit_clear.2.1 (50, 1, 6, .int, false) (ip_lk_mem rfl)).1 (by decide) (zo_24 _ _ _ _) (zs_24_6 _ _ _ _ _) (zn_24_6 _ _ _ _) rfl ?_
  refine z_go (Gr := Gr) (zc := zc n w) (K := 168) oV_Circuit_clear 2 (pc' := 22) (L' := [some (.ref 56), some (.int x1)]) (st' := [.int 0, .ref 56]) rfl ?_
  refine z_putI (Gr := Gr) (c := 24) (oV_Circuit_clear.1 (22, .putfield 53) (ip_lk_mem rfl)) (oV_Circuit_clear.2.1 (53, 1, 7, .boolean, false) (ip_lk_mem rfl)).1 (by decide) (zo_24 _ _ _ _) (zs_24_7 _ _ _ _ _) (zn_24_7 _ _ _ _) (by decide) ?_
  refine z_go (Gr := Gr) (zc := zc n w) (K := 168) oV_Circuit_clear 2 (pc' := 27) (L' := [some (.ref 56), some (.int x1)]) (st' := [.int 0, .ref 56]) rfl ?_
  refine z_putI (Gr := Gr) (c := 24) (oV_Circuit_clear.1 (27, .putfield 57) (ip_lk_mem rfl)) (oV_Circuit_clear.2.1 (57, 1, 11, .int, false) (ip_lk_mem rfl)).1 (by decide) (zo_24 _ _ _ _) (zs_24_11 _ _ _ _ _) (zn_24_11 _ _ _ _) rfl ?_
  refine z_go (Gr := Gr) (zc := zc n w) (K := 168) oV_Circuit_clear 4 (pc' := 36) (L' := [some (.ref 56), some (.int x1)]) (st' := [.int 0, .int 0, .ref 63]) rfl ?_
  refine z_iast (Gr := Gr) (c := 31) (oV_Circuit_clear.1 (36, .iastore) (ip_lk_mem rfl)) (by decide) (fun _ => rfl) (by unfold vp_in; decide) ?_
  exact z_ret (v := none) (oV_Circuit_clear.1 (37, .return_) (ip_lk_mem rfl)) k0
theorem e_Circuit_clear {l : Launch} {Gr : zG} {n w : Nat} {d : Nat} {S : zS} {R : zS → Prop} {x1 : Int32} (k : zW l Gr (zc n w) 168 M_Circuit_clear d 0 [some (.ref 56), some (.int x1)] [] S (fun v S' => v = none ∧ R S')) : zMv l Gr (zc n w) 168 M_Circuit_clear d [.ref 56, .int x1] S R := z_mv oM_Circuit_clear rfl (Nat.le_of_ble_eq_true rfl) k
set_option maxRecDepth 100000 in
theorem b_Builder_build_0 {l : Launch} {Gr : zG} {n w : Nat} {d : Nat} {S : zS} {Q : Option Value → zS → Prop} {R : zS → Prop} (hg : ip_gk (lg_tbl, vwCl, Gr))   (k0 : zMv l Gr (zc n w) 168 M_Arrays_fill_78e d [.ref 90, .int (-2)] S R) (k1 : ∀ S', R S' → zW l Gr (zc n w) 168 M_Builder_build (d + 1) 9 [some (.ref 77), none, none, none] [] S' Q) : zW l Gr (zc n w) 168 M_Builder_build (d + 1) 0 [some (.ref 77), none, none, none] [] S Q := by
  refine z_go (Gr := Gr) (zc := zc n w) (K := 168) oV_Builder_build 3 (pc' := 6) (L' := [some (.ref 77), none, none, none]) (st' := [.int (-2), .ref 90]) rfl ?_
  exact z_callS (Gr := Gr) hg.2.2.1 fT oM_Arrays_fill_78e (oV_Builder_build.1 (6, .invokestatic 63) (ip_lk_mem rfl)) ⟨tt_5 _ (List.mem_of_getElem? (i := 40) rfl) rfl, tt_3 _ (List.mem_of_getElem? (i := 166) rfl) rfl⟩ (As := [.ref 90, .int (-2)]) rfl (Nat.le_of_ble_eq_true rfl) k0 (fun v S' q => by obtain ⟨rfl, q⟩ := q; exact (k1 _ q))
set_option maxRecDepth 100000 in
theorem b_Builder_build_9 {l : Launch} {Gr : zG} {n w : Nat} {d : Nat} {S : zS} {Q : Option Value → zS → Prop}   (k0 : zW l Gr (zc n w) 168 M_Builder_build (d + 1) 36 [some (.ref 77), some (.int 0), none, none] [] (zi (zi (zi (zi (zi S 45 8 0) 45 12 0) 45 13 0) 45 16 0) 45 18 0) Q) : zW l Gr (zc n w) 168 M_Builder_build (d + 1) 9 [some (.ref 77), none, none, none] [] S Q := by
  refine z_go (Gr := Gr) (zc := zc n w) (K := 168) oV_Builder_build 2 (pc' := 11) (L' := [some (.ref 77), none, none, none]) (st' := [.int 0, .ref 77]) rfl ?_
  refine z_putI (Gr := Gr) (c := 45) (oV_Builder_build.1 (11, .putfield 69) (ip_lk_mem rfl)) (oV_Builder_build.2.1 (69, 0, 8, .int, false) (ip_lk_mem rfl)).1 (by decide) (zo_45 _ _ _ _) (zs_45_8 _ _ _ _ _) (zn_45_8 _ _ _ _) rfl ?_
  refine z_go (Gr := Gr) (zc := zc n w) (K := 168) oV_Builder_build 2 (pc' := 16) (L' := [some (.ref 77), none, none, none]) (st' := [.int 0, .ref 77]) rfl ?_
  refine z_putI (Gr := Gr) (c := 45) (oV_Builder_build.1 (16, .putfield 72) (ip_lk_mem rfl)) (oV_Builder_build.2.1 (72, 0, 12, .int, false) (ip_lk_mem rfl)).1 (by decide) (zo_45 _ _ _ _) (zs_45_12 _ _ _ _ _) (zn_45_12 _ _ _ _) rfl ?_
  refine z_go (Gr := Gr) (zc := zc n w) (K := 168) oV_Builder_build 2 (pc' := 21) (L' := [some (.ref 77), none, none, none]) (st' := [.int 0, .ref 77]) rfl ?_
  refine z_putI (Gr := Gr) (c := 45) (oV_Builder_build.1 (21, .putfield 75) (ip_lk_mem rfl)) (oV_Builder_build.2.1 (75, 0, 13, .int, false) (ip_lk_mem rfl)).1 (by decide) (zo_45 _ _ _ _) (zs_45_13 _ _ _ _ _) (zn_45_13 _ _ _ _) rfl ?_
  refine z_go (Gr := Gr) (zc := zc n w) (K := 168) oV_Builder_build 2 (pc' := 26) (L' := [some (.ref 77), none, none, none]) (st' := [.int 0, .ref 77]) rfl ?_
  refine z_putI (Gr := Gr) (c := 45) (oV_Builder_build.1 (26, .putfield 78) (ip_lk_mem rfl)) (oV_Builder_build.2.1 (78, 0, 16, .int, false) (ip_lk_mem rfl)).1 (by decide) (zo_45 _ _ _ _) (zs_45_16 _ _ _ _ _) (zn_45_16 _ _ _ _) rfl ?_
  refine z_go (Gr := Gr) (zc := zc n w) (K := 168) oV_Builder_build 2 (pc' := 31) (L' := [some (.ref 77), none, none, none]) (st' := [.int 0, .ref 77]) rfl ?_
  refine z_putI (Gr := Gr) (c := 45) (oV_Builder_build.1 (31, .putfield 81) (ip_lk_mem rfl)) (oV_Builder_build.2.1 (81, 0, 18, .int, false) (ip_lk_mem rfl)).1 (by decide) (zo_45 _ _ _ _) (zs_45_18 _ _ _ _ _) (zn_45_18 _ _ _ _) rfl ?_
  refine z_go (Gr := Gr) (zc := zc n w) (K := 168) oV_Builder_build 2 (pc' := 36) (L' := [some (.ref 77), some (.int 0), none, none]) (st' := []) rfl ?_
  exact k0
set_option maxRecDepth 100000 in
theorem b_Builder_build_36 {l : Launch} {Gr : zG} {n w : Nat} {d : Nat} {S : zS} {Q : Option Value → zS → Prop} {x1 : Int32}  (k0 : 100000000 ≤ x1 → zW l Gr (zc n w) 168 M_Builder_build (d + 1) 189 [none, none, none, none] [] S Q) (k1 : ¬ 100000000 ≤ x1 → zW l Gr (zc n w) 168 M_Builder_build (d + 1) 42 [some (.ref 77), some (.int x1), none, none] [] S Q) : zW l Gr (zc n w) 168 M_Builder_build (d + 1) 36 [some (.ref 77), some (.int x1), none, none] [] S Q := by
  refine z_go (Gr := Gr) (zc := zc n w) (K := 168) oV_Builder_build 2 (pc' := 39) (L' := [some (.ref 77), some (.int x1), none, none]) (st' := [.int 100000000, .int x1]) rfl ?_
  exact z_icge (Gr := Gr) (tgt := 189) (oV_Builder_build.1 (39, .if_icmp .ge 150) (ip_lk_mem rfl)) (by decide) (fun q => (z_forget (k0 q) trivial)) (fun q => (k1 q))
set_option maxRecDepth 100000 in
theorem b_Builder_build_189 {l : Launch} {Gr : zG} {n w : Nat} {d : Nat} {S : zS} {Q : Option Value → zS → Prop}   (k0 : Q none S) : zW l Gr (zc n w) 168 M_Builder_build (d + 1) 189 [none, none, none, none] [] S Q := by
  exact z_ret (v := none) (oV_Builder_build.1 (189, .return_) (ip_lk_mem rfl)) k0
set_option maxRecDepth 100000 in
theorem b_Builder_build_42 {l : Launch} {Gr : zG} {n w : Nat} {d : Nat} {S : zS} {Q : Option Value → zS → Prop} {x1 : Int32}  (k0 : (S.1 3 4) ≤ (S.1 45 16) → zW l Gr (zc n w) 168 M_Builder_build (d + 1) 189 [none, none, none, none] [] S Q) (k1 : ¬ (S.1 3 4) ≤ (S.1 45 16) → zW l Gr (zc n w) 168 M_Builder_build (d + 1) 56 [some (.ref 77), some (.int x1), none, none] [] S Q) : zW l Gr (zc n w) 168 M_Builder_build (d + 1) 42 [some (.ref 77), some (.int x1), none, none] [] S Q := by
  refine z_go (Gr := Gr) (zc := zc n w) (K := 168) oV_Builder_build 5 (pc' := 53) (L' := [some (.ref 77), some (.int x1), none, none]) (st' := [.int (S.1 3 4), .int (S.1 45 16)]) rfl ?_
  exact z_icge (Gr := Gr) (tgt := 189) (oV_Builder_build.1 (53, .if_icmp .ge 136) (ip_lk_mem rfl)) (by decide) (fun q => (z_forget (k0 q) trivial)) (fun q => (k1 q))
set_option maxRecDepth 100000 in
theorem b_Builder_build_56 {l : Launch} {Gr : zG} {n w : Nat} {d : Nat} {S : zS} {Q : Option Value → zS → Prop} {x1 : Int32}  (k0 : ¬ (S.1 3 5) = 0 → zW l Gr (zc n w) 168 M_Builder_build (d + 1) 189 [none, none, none, none] [] S Q) (k1 : (S.1 3 5) = 0 → zW l Gr (zc n w) 168 M_Builder_build (d + 1) 66 [some (.ref 77), some (.int x1), none, none] [] S Q) : zW l Gr (zc n w) 168 M_Builder_build (d + 1) 56 [some (.ref 77), some (.int x1), none, none] [] S Q := by
  refine z_go (Gr := Gr) (zc := zc n w) (K := 168) oV_Builder_build 3 (pc' := 63) (L' := [some (.ref 77), some (.int x1), none, none]) (st' := [.int (S.1 3 5)]) rfl ?_
  exact z_ifne (Gr := Gr) (tgt := 189) (oV_Builder_build.1 (63, .ifCond .ne 126) (ip_lk_mem rfl)) (by decide) (fun q => (z_forget (k0 q) trivial)) (fun q => (k1 q))
set_option maxRecDepth 100000 in
theorem b_Builder_build_66 {l : Launch} {Gr : zG} {n w : Nat} {d : Nat} {S : zS} {Q : Option Value → zS → Prop} {R : Int32 → zS → Prop} (hg : ip_gk (lg_tbl, vwCl, Gr)) {x1 : Int32} (g0 : vp_in (S.1 45 16) 4000) (k0 : zMi l Gr (zc n w) 168 M_Builder_finds d [.ref 77, .int (S.1 4 (((S.1 45 16) : Int32).toNatClampNeg))] (zi S 45 16 ((S.1 45 16) + 1)) R) (k1 : ∀ v S', R v S' → zW l Gr (zc n w) 168 M_Builder_build (d + 1) 96 [some (.ref 77), some (.int x1), some (.int (S.1 45 16)), some (.int (S.1 4 (((S.1 45 16) : Int32).toNatClampNeg)))] [.int v] S' Q) : zW l Gr (zc n w) 168 M_Builder_build (d + 1) 66 [some (.ref 77), some (.int x1), none, none] [] S Q := by
  refine z_go (Gr := Gr) (zc := zc n w) (K := 168) oV_Builder_build 8 (pc' := 78) (L' := [some (.ref 77), some (.int x1), some (.int (S.1 45 16)), none]) (st' := [.int ((S.1 45 16) + 1), .ref 77]) rfl ?_
  refine z_putI (Gr := Gr) (c := 45) (oV_Builder_build.1 (78, .putfield 78) (ip_lk_mem rfl)) (oV_Builder_build.2.1 (78, 0, 16, .int, false) (ip_lk_mem rfl)).1 (by decide) (zo_45 _ _ _ _) (zs_45_16 _ _ _ _ _) (zn_45_16 _ _ _ _) rfl ?_
  refine z_go (Gr := Gr) (zc := zc n w) (K := 168) oV_Builder_build 4 (pc' := 89) (L' := [some (.ref 77), some (.int x1), some (.int (S.1 45 16)), none]) (st' := [.int (S.1 45 16), .ref 36]) rfl ?_
  refine z_iald (Gr := Gr) (c := 4) (oV_Builder_build.1 (89, .iaload) (ip_lk_mem rfl)) (by decide) rfl g0 ?_
  refine z_topI (v := (S.1 4 (((S.1 45 16) : Int32).toNatClampNeg))) (zi_c (by decide)) ?_
  refine z_go (Gr := Gr) (zc := zc n w) (K := 168) oV_Builder_build 3 (pc' := 93) (L' := [some (.ref 77), some (.int x1), some (.int (S.1 45 16)), some (.int (S.1 4 (((S.1 45 16) : Int32).toNatClampNeg)))]) (st' := [.int (S.1 4 (((S.1 45 16) : Int32).toNatClampNeg)), .ref 77]) rfl ?_
  exact z_callV (Gr := Gr) hg.2.2.1 fT oM_Builder_finds (oV_Builder_build.1 (93, .invokevirtual 96) (ip_lk_mem rfl)) ⟨tt_5 _ (List.mem_of_getElem? (i := 42) rfl) rfl, tt_5 _ (List.mem_of_getElem? (i := 44) rfl) rfl, fS_Builder_finds⟩ (c := 45) (ci := 0) (As := [.int (S.1 4 (((S.1 45 16) : Int32).toNatClampNeg))]) rfl rfl rfl (by decide) rfl (Nat.le_of_ble_eq_true rfl) k0 (fun v S' q => by obtain ⟨x, rfl, q⟩ := q; exact (k1 _ _ q))
set_option maxRecDepth 100000 in
theorem b_Builder_build_96 {l : Launch} {Gr : zG} {n w : Nat} {d : Nat} {S : zS} {Q : Option Value → zS → Prop} {x1 : Int32} {x2 : Int32} {x3 : Int32} {s0 : Int32}  (k0 : ¬ s0 = 0 → zW l Gr (zc n w) 168 M_Builder_build (d + 1) 100 [some (.ref 77), some (.int x1), some (.int x2), some (.int x3)] [] S Q) (k1 : s0 = 0 → zW l Gr (zc n w) 168 M_Builder_build (d + 1) 99 [none, none, none, none] [] S Q) : zW l Gr (zc n w) 168 M_Builder_build (d + 1) 96 [some (.ref 77), some (.int x1), some (.int x2), some (.int x3)] [.int s0] S Q := by
  exact z_ifne (Gr := Gr) (tgt := 100) (oV_Builder_build.1 (96, .ifCond .ne 4) (ip_lk_mem rfl)) (by decide) (fun q => (k0 q)) (fun q => (z_forget (k1 q) trivial))
set_option maxRecDepth 100000 in
theorem b_Builder_build_100 {l : Launch} {Gr : zG} {n w : Nat} {d : Nat} {S : zS} {Q : Option Value → zS → Prop} {x1 : Int32} {x2 : Int32} {x3 : Int32}  (k0 : 20 < x3 → zW l Gr (zc n w) 168 M_Builder_build (d + 1) 115 [some (.ref 77), some (.int x1), some (.int x2), some (.int x3)] [] S Q) (k1 : ¬ 20 < x3 → zW l Gr (zc n w) 168 M_Builder_build (d + 1) 106 [some (.ref 77), some (.int x1), some (.int x2), some (.int x3)] [] S Q) : zW l Gr (zc n w) 168 M_Builder_build (d + 1) 100 [some (.ref 77), some (.int x1), some (.int x2), some (.int x3)] [] S Q := by
  refine z_go (Gr := Gr) (zc := zc n w) (K := 168) oV_Builder_build 2 (pc' := 103) (L' := [some (.ref 77), some (.int x1), some (.int x2), some (.int x3)]) (st' := [.int 20, .int x3]) rfl ?_
  exact z_icgt (Gr := Gr) (tgt := 115) (oV_Builder_build.1 (103, .if_icmp .gt 12) (ip_lk_mem rfl)) (by decide) (fun q => (k0 q)) (fun q => (k1 q))
set_option maxRecDepth 100000 in
theorem b_Builder_build_99 {l : Launch} {Gr : zG} {n w : Nat} {d : Nat} {S : zS} {Q : Option Value → zS → Prop}   (k0 : Q none S) : zW l Gr (zc n w) 168 M_Builder_build (d + 1) 99 [none, none, none, none] [] S Q := by
  exact z_ret (v := none) (oV_Builder_build.1 (99, .return_) (ip_lk_mem rfl)) k0
set_option maxRecDepth 100000 in
theorem b_Builder_build_115 {l : Launch} {Gr : zG} {n w : Nat} {d : Nat} {S : zS} {Q : Option Value → zS → Prop} {x1 : Int32} {x2 : Int32} {x3 : Int32}  (k0 : 33 < x3 → zW l Gr (zc n w) 168 M_Builder_build (d + 1) 130 [some (.ref 77), some (.int x1), some (.int x2), some (.int x3)] [] S Q) (k1 : ¬ 33 < x3 → zW l Gr (zc n w) 168 M_Builder_build (d + 1) 121 [some (.ref 77), some (.int x1), some (.int x2), some (.int x3)] [] S Q) : zW l Gr (zc n w) 168 M_Builder_build (d + 1) 115 [some (.ref 77), some (.int x1), some (.int x2), some (.int x3)] [] S Q := by
  refine z_go (Gr := Gr) (zc := zc n w) (K := 168) oV_Builder_build 2 (pc' := 118) (L' := [some (.ref 77), some (.int x1), some (.int x2), some (.int x3)]) (st' := [.int 33, .int x3]) rfl ?_
  exact z_icgt (Gr := Gr) (tgt := 130) (oV_Builder_build.1 (118, .if_icmp .gt 12) (ip_lk_mem rfl)) (by decide) (fun q => (k0 q)) (fun q => (k1 q))
set_option maxRecDepth 100000 in
theorem b_Builder_build_106 {l : Launch} {Gr : zG} {n w : Nat} {d : Nat} {S : zS} {Q : Option Value → zS → Prop} {R : zS → Prop} (hg : ip_gk (lg_tbl, vwCl, Gr)) {x1 : Int32} {x2 : Int32} {x3 : Int32}  (k0 : zMv l Gr (zc n w) 168 M_Builder_buildStatement d [.ref 77, .int x2, .int x3] S R) (k1 : ∀ S', R S' → zW l Gr (zc n w) 168 M_Builder_build (d + 1) 112 [some (.ref 77), some (.int x1), none, none] [] S' Q) : zW l Gr (zc n w) 168 M_Builder_build (d + 1) 106 [some (.ref 77), some (.int x1), some (.int x2), some (.int x3)] [] S Q := by
  refine z_go (Gr := Gr) (zc := zc n w) (K := 168) oV_Builder_build 3 (pc' := 109) (L' := [some (.ref 77), some (.int x1), some (.int x2), some (.int x3)]) (st' := [.int x3, .int x2, .ref 77]) rfl ?_
  exact z_callV (Gr := Gr) hg.2.2.1 fT oM_Builder_buildStatement (oV_Builder_build.1 (109, .invokevirtual 100) (ip_lk_mem rfl)) ⟨tt_5 _ (List.mem_of_getElem? (i := 48) rfl) rfl, tt_5 _ (List.mem_of_getElem? (i := 50) rfl) rfl, fS_Builder_buildStatement⟩ (c := 45) (ci := 0) (As := [.int x2, .int x3]) rfl rfl rfl (by decide) rfl (Nat.le_of_ble_eq_true rfl) k0 (fun v S' q => by obtain ⟨rfl, q⟩ := q; exact (z_forget (k1 _ q) (And.intro rfl (And.intro rfl trivial))))
set_option maxRecDepth 100000 in
theorem b_Builder_build_130 {l : Launch} {Gr : zG} {n w : Nat} {d : Nat} {S : zS} {Q : Option Value → zS → Prop} {x1 : Int32} {x2 : Int32} {x3 : Int32}  (k0 : 38 ≤ x3 → zW l Gr (zc n w) 168 M_Builder_build (d + 1) 145 [some (.ref 77), some (.int x1), some (.int x2), some (.int x3)] [] S Q) (k1 : ¬ 38 ≤ x3 → zW l Gr (zc n w) 168 M_Builder_build (d + 1) 136 [some (.ref 77), some (.int x1), some (.int x2), some (.int x3)] [] S Q) : zW l Gr (zc n w) 168 M_Builder_build (d + 1) 130 [some (.ref 77), some (.int x1), some (.int x2), some (.int x3)] [] S Q := by
  refine z_go (Gr := Gr) (zc := zc n w) (K := 168) oV_Builder_build 2 (pc' := 133) (L' := [some (.ref 77), some (.int x1), some (.int x2), some (.int x3)]) (st' := [.int 38, .int x3]) rfl ?_
  exact z_icge (Gr := Gr) (tgt := 145) (oV_Builder_build.1 (133, .if_icmp .ge 12) (ip_lk_mem rfl)) (by decide) (fun q => (k0 q)) (fun q => (k1 q))
set_option maxRecDepth 100000 in
theorem b_Builder_build_121 {l : Launch} {Gr : zG} {n w : Nat} {d : Nat} {S : zS} {Q : Option Value → zS → Prop} {R : zS → Prop} (hg : ip_gk (lg_tbl, vwCl, Gr)) {x1 : Int32} {x2 : Int32} {x3 : Int32}  (k0 : zMv l Gr (zc n w) 168 M_Builder_buildFactor d [.ref 77, .int x2, .int x3] S R) (k1 : ∀ S', R S' → zW l Gr (zc n w) 168 M_Builder_build (d + 1) 127 [some (.ref 77), some (.int x1), none, none] [] S' Q) : zW l Gr (zc n w) 168 M_Builder_build (d + 1) 121 [some (.ref 77), some (.int x1), some (.int x2), some (.int x3)] [] S Q := by
  refine z_go (Gr := Gr) (zc := zc n w) (K := 168) oV_Builder_build 3 (pc' := 124) (L' := [some (.ref 77), some (.int x1), some (.int x2), some (.int x3)]) (st' := [.int x3, .int x2, .ref 77]) rfl ?_
  exact z_callV (Gr := Gr) hg.2.2.1 fT oM_Builder_buildFactor (oV_Builder_build.1 (124, .invokevirtual 104) (ip_lk_mem rfl)) ⟨tt_5 _ (List.mem_of_getElem? (i := 141) rfl) rfl, tt_5 _ (List.mem_of_getElem? (i := 143) rfl) rfl, fS_Builder_buildFactor⟩ (c := 45) (ci := 0) (As := [.int x2, .int x3]) rfl rfl rfl (by decide) rfl (Nat.le_of_ble_eq_true rfl) k0 (fun v S' q => by obtain ⟨rfl, q⟩ := q; exact (z_forget (k1 _ q) (And.intro rfl (And.intro rfl trivial))))
set_option maxRecDepth 100000 in
theorem b_Builder_build_112 {l : Launch} {Gr : zG} {n w : Nat} {d : Nat} {S : zS} {Q : Option Value → zS → Prop} {x1 : Int32}  (k0 : zW l Gr (zc n w) 168 M_Builder_build (d + 1) 151 [some (.ref 77), some (.int x1), none, none] [] S Q) : zW l Gr (zc n w) 168 M_Builder_build (d + 1) 112 [some (.ref 77), some (.int x1), none, none] [] S Q := by
  refine z_go (Gr := Gr) (zc := zc n w) (K := 168) oV_Builder_build 1 (pc' := 151) (L' := [some (.ref 77), some (.int x1), none, none]) (st' := []) rfl ?_
  exact k0
set_option maxRecDepth 100000 in
theorem b_Builder_build_145 {l : Launch} {Gr : zG} {n w : Nat} {d : Nat} {S : zS} {Q : Option Value → zS → Prop} {R : zS → Prop} (hg : ip_gk (lg_tbl, vwCl, Gr)) {x1 : Int32} {x2 : Int32} {x3 : Int32}  (k0 : zMv l Gr (zc n w) 168 M_Builder_buildOperator d [.ref 77, .int x2, .int x3] S R) (k1 : ∀ S', R S' → zW l Gr (zc n w) 168 M_Builder_build (d + 1) 151 [some (.ref 77), some (.int x1), none, none] [] S' Q) : zW l Gr (zc n w) 168 M_Builder_build (d + 1) 145 [some (.ref 77), some (.int x1), some (.int x2), some (.int x3)] [] S Q := by
  refine z_go (Gr := Gr) (zc := zc n w) (K := 168) oV_Builder_build 3 (pc' := 148) (L' := [some (.ref 77), some (.int x1), some (.int x2), some (.int x3)]) (st' := [.int x3, .int x2, .ref 77]) rfl ?_
  exact z_callV (Gr := Gr) hg.2.2.1 fT oM_Builder_buildOperator (oV_Builder_build.1 (148, .invokevirtual 110) (ip_lk_mem rfl)) ⟨tt_5 _ (List.mem_of_getElem? (i := 206) rfl) rfl, tt_5 _ (List.mem_of_getElem? (i := 208) rfl) rfl, fS_Builder_buildOperator⟩ (c := 45) (ci := 0) (As := [.int x2, .int x3]) rfl rfl rfl (by decide) rfl (Nat.le_of_ble_eq_true rfl) k0 (fun v S' q => by obtain ⟨rfl, q⟩ := q; exact (z_forget (k1 _ q) (And.intro rfl (And.intro rfl trivial))))
set_option maxRecDepth 100000 in
theorem b_Builder_build_136 {l : Launch} {Gr : zG} {n w : Nat} {d : Nat} {S : zS} {Q : Option Value → zS → Prop} {R : zS → Prop} (hg : ip_gk (lg_tbl, vwCl, Gr)) {x1 : Int32} {x2 : Int32} {x3 : Int32}  (k0 : zMv l Gr (zc n w) 168 M_Builder_buildSign d [.ref 77, .int x2, .int x3] S R) (k1 : ∀ S', R S' → zW l Gr (zc n w) 168 M_Builder_build (d + 1) 142 [some (.ref 77), some (.int x1), none, none] [] S' Q) : zW l Gr (zc n w) 168 M_Builder_build (d + 1) 136 [some (.ref 77), some (.int x1), some (.int x2), some (.int x3)] [] S Q := by
  refine z_go (Gr := Gr) (zc := zc n w) (K := 168) oV_Builder_build 3 (pc' := 139) (L' := [some (.ref 77), some (.int x1), some (.int x2), some (.int x3)]) (st' := [.int x3, .int x2, .ref 77]) rfl ?_
  exact z_callV (Gr := Gr) hg.2.2.1 fT oM_Builder_buildSign (oV_Builder_build.1 (139, .invokevirtual 107) (ip_lk_mem rfl)) ⟨tt_5 _ (List.mem_of_getElem? (i := 183) rfl) rfl, tt_5 _ (List.mem_of_getElem? (i := 185) rfl) rfl, fS_Builder_buildSign⟩ (c := 45) (ci := 0) (As := [.int x2, .int x3]) rfl rfl rfl (by decide) rfl (Nat.le_of_ble_eq_true rfl) k0 (fun v S' q => by obtain ⟨rfl, q⟩ := q; exact (z_forget (k1 _ q) (And.intro rfl (And.intro rfl trivial))))
set_option maxRecDepth 100000 in
theorem b_Builder_build_127 {l : Launch} {Gr : zG} {n w : Nat} {d : Nat} {S : zS} {Q : Option Value → zS → Prop} {x1 : Int32}  (k0 : zW l Gr (zc n w) 168 M_Builder_build (d + 1) 151 [some (.ref 77), some (.int x1), none, none] [] S Q) : zW l Gr (zc n w) 168 M_Builder_build (d + 1) 127 [some (.ref 77), some (.int x1), none, none] [] S Q := by
  refine z_go (Gr := Gr) (zc := zc n w) (K := 168) oV_Builder_build 1 (pc' := 151) (L' := [some (.ref 77), some (.int x1), none, none]) (st' := []) rfl ?_
  exact k0
set_option maxRecDepth 100000 in
theorem b_Builder_build_151 {l : Launch} {Gr : zG} {n w : Nat} {d : Nat} {S : zS} {Q : Option Value → zS → Prop} {x1 : Int32}  (k0 : ¬ (S.1 24 7) = 0 → zW l Gr (zc n w) 168 M_Builder_build (d + 1) 170 [some (.ref 77), some (.int x1), none, none] [] S Q) (k1 : (S.1 24 7) = 0 → zW l Gr (zc n w) 168 M_Builder_build (d + 1) 161 [some (.ref 77), some (.int x1), none, none] [] S Q) : zW l Gr (zc n w) 168 M_Builder_build (d + 1) 151 [some (.ref 77), some (.int x1), none, none] [] S Q := by
  refine z_go (Gr := Gr) (zc := zc n w) (K := 168) oV_Builder_build 3 (pc' := 158) (L' := [some (.ref 77), some (.int x1), none, none]) (st' := [.int (S.1 24 7)]) rfl ?_
  exact z_ifne (Gr := Gr) (tgt := 170) (oV_Builder_build.1 (158, .ifCond .ne 12) (ip_lk_mem rfl)) (by decide) (fun q => (k0 q)) (fun q => (k1 q))
set_option maxRecDepth 100000 in
theorem b_Builder_build_142 {l : Launch} {Gr : zG} {n w : Nat} {d : Nat} {S : zS} {Q : Option Value → zS → Prop} {x1 : Int32}  (k0 : zW l Gr (zc n w) 168 M_Builder_build (d + 1) 151 [some (.ref 77), some (.int x1), none, none] [] S Q) : zW l Gr (zc n w) 168 M_Builder_build (d + 1) 142 [some (.ref 77), some (.int x1), none, none] [] S Q := by
  refine z_go (Gr := Gr) (zc := zc n w) (K := 168) oV_Builder_build 1 (pc' := 151) (L' := [some (.ref 77), some (.int x1), none, none]) (st' := []) rfl ?_
  exact k0
set_option maxRecDepth 100000 in
theorem b_Builder_build_170 {l : Launch} {Gr : zG} {n w : Nat} {d : Nat} {S : zS} {Q : Option Value → zS → Prop} {R : zS → Prop} (hg : ip_gk (lg_tbl, vwCl, Gr)) {x1 : Int32}  (k0 : zMv l Gr (zc n w) 168 M_Code_tell d [.ref 35, .int 8, .int (S.1 45 17)] S R) (k1 : ∀ S', R S' → zW l Gr (zc n w) 168 M_Builder_build (d + 1) 183 [some (.ref 77), some (.int x1), none, none] [] S' Q) : zW l Gr (zc n w) 168 M_Builder_build (d + 1) 170 [some (.ref 77), some (.int x1), none, none] [] S Q := by
  refine z_go (Gr := Gr) (zc := zc n w) (K := 168) oV_Builder_build 5 (pc' := 180) (L' := [some (.ref 77), some (.int x1), none, none]) (st' := [.int (S.1 45 17), .int 8, .ref 35]) rfl ?_
  exact z_callV (Gr := Gr) hg.2.2.1 fT oM_Code_tell (oV_Builder_build.1 (180, .invokevirtual 123) (ip_lk_mem rfl)) ⟨tt_5 _ (List.mem_of_getElem? (i := 136) rfl) rfl, tt_4 _ (List.mem_of_getElem? (i := 16) rfl) rfl, tt_4 _ (List.mem_of_getElem? (i := 17) rfl) rfl⟩ (c := 3) (ci := 2) (As := [.int 8, .int (S.1 45 17)]) rfl rfl rfl (by decide) rfl (Nat.le_of_ble_eq_true rfl) k0 (fun v S' q => by obtain ⟨rfl, q⟩ := q; exact (k1 _ q))
set_option maxRecDepth 100000 in
theorem b_Builder_build_161 {l : Launch} {Gr : zG} {n w : Nat} {d : Nat} {S : zS} {Q : Option Value → zS → Prop} {x1 : Int32}  (k0 : (S.1 45 18) ≤ 100000 → zW l Gr (zc n w) 168 M_Builder_build (d + 1) 183 [some (.ref 77), some (.int x1), none, none] [] S Q) (k1 : ¬ (S.1 45 18) ≤ 100000 → zW l Gr (zc n w) 168 M_Builder_build (d + 1) 170 [some (.ref 77), some (.int x1), none, none] [] S Q) : zW l Gr (zc n w) 168 M_Builder_build (d + 1) 161 [some (.ref 77), some (.int x1), none, none] [] S Q := by
  refine z_go (Gr := Gr) (zc := zc n w) (K := 168) oV_Builder_build 3 (pc' := 167) (L' := [some (.ref 77), some (.int x1), none, none]) (st' := [.int 100000, .int (S.1 45 18)]) rfl ?_
  exact z_icle (Gr := Gr) (tgt := 183) (oV_Builder_build.1 (167, .if_icmp .le 16) (ip_lk_mem rfl)) (by decide) (fun q => (k0 q)) (fun q => (k1 q))
set_option maxRecDepth 100000 in
theorem b_Builder_build_183 {l : Launch} {Gr : zG} {n w : Nat} {d : Nat} {S : zS} {Q : Option Value → zS → Prop} {x1 : Int32}  (k0 : zW l Gr (zc n w) 168 M_Builder_build (d + 1) 36 [some (.ref 77), some (.int (x1 + Int32.ofInt 1)), none, none] [] S Q) : zW l Gr (zc n w) 168 M_Builder_build (d + 1) 183 [some (.ref 77), some (.int x1), none, none] [] S Q := by
  refine z_go (Gr := Gr) (zc := zc n w) (K := 168) oV_Builder_build 2 (pc' := 36) (L' := [some (.ref 77), some (.int (x1 + Int32.ofInt 1)), none, none]) (st' := []) rfl ?_
  exact k0
theorem e_Builder_build {l : Launch} {Gr : zG} {n w : Nat} {d : Nat} {S : zS} {R : zS → Prop}  (k : zW l Gr (zc n w) 168 M_Builder_build (d + 1) 0 [some (.ref 77), none, none, none] [] S (fun v S' => v = none ∧ R S')) : zMv l Gr (zc n w) 168 M_Builder_build (d + 1) [.ref 77] S R := z_mv oM_Builder_build rfl (Nat.le_of_ble_eq_true rfl) k
set_option maxRecDepth 100000 in
theorem b_Circuit_finish_0 {l : Launch} {Gr : zG} {n w : Nat} {d : Nat} {S : zS} {Q : Option Value → zS → Prop} {R : zS → Prop} (hg : ip_gk (lg_tbl, vwCl, Gr))   (k0 : zMv l Gr (zc n w) 168 M_Arrays_fill_78e d [.ref 62, .int 0] S R) (k1 : ∀ S', R S' → zW l Gr (zc n w) 168 M_Circuit_finish (d + 1) 8 [some (.ref 56), none, none] [] S' Q) : zW l Gr (zc n w) 168 M_Circuit_finish (d + 1) 0 [some (.ref 56), none, none] [] S Q := by
  refine z_go (Gr := Gr) (zc := zc n w) (K := 168) oV_Circuit_finish 3 (pc' := 5) (L' := [some (.ref 56), none, none]) (st' := [.int 0, .ref 62]) rfl ?_
  exact z_callS (Gr := Gr) hg.2.2.1 fT oM_Arrays_fill_78e (oV_Circuit_finish.1 (5, .invokestatic 87) (ip_lk_mem rfl)) ⟨tt_6 _ (List.mem_of_getElem? (i := 27) rfl) rfl, tt_3 _ (List.mem_of_getElem? (i := 166) rfl) rfl⟩ (As := [.ref 62, .int 0]) rfl (Nat.le_of_ble_eq_true rfl) k0 (fun v S' q => by obtain ⟨rfl, q⟩ := q; exact (k1 _ q))
set_option maxRecDepth 100000 in
theorem b_Circuit_finish_8 {l : Launch} {Gr : zG} {n w : Nat} {d : Nat} {S : zS} {Q : Option Value → zS → Prop}   (k0 : zW l Gr (zc n w) 168 M_Circuit_finish (d + 1) 10 [some (.ref 56), some (.int 0), none] [] S Q) : zW l Gr (zc n w) 168 M_Circuit_finish (d + 1) 8 [some (.ref 56), none, none] [] S Q := by
  refine z_go (Gr := Gr) (zc := zc n w) (K := 168) oV_Circuit_finish 2 (pc' := 10) (L' := [some (.ref 56), some (.int 0), none]) (st' := []) rfl ?_
  exact k0
set_option maxRecDepth 100000 in
theorem b_Circuit_finish_10 {l : Launch} {Gr : zG} {n w : Nat} {d : Nat} {S : zS} {Q : Option Value → zS → Prop} {x1 : Int32}  (k0 : (S.1 24 4) ≤ x1 → zW l Gr (zc n w) 168 M_Circuit_finish (d + 1) 67 [some (.ref 56), none, none] [] S Q) (k1 : ¬ (S.1 24 4) ≤ x1 → zW l Gr (zc n w) 168 M_Circuit_finish (d + 1) 18 [some (.ref 56), some (.int x1), none] [] S Q) : zW l Gr (zc n w) 168 M_Circuit_finish (d + 1) 10 [some (.ref 56), some (.int x1), none] [] S Q := by
  refine z_go (Gr := Gr) (zc := zc n w) (K := 168) oV_Circuit_finish 3 (pc' := 15) (L' := [some (.ref 56), some (.int x1), none]) (st' := [.int (S.1 24 4), .int x1]) rfl ?_
  exact z_icge (Gr := Gr) (tgt := 67) (oV_Circuit_finish.1 (15, .if_icmp .ge 52) (ip_lk_mem rfl)) (by decide) (fun q => (z_forget (k0 q) (And.intro rfl trivial))) (fun q => (k1 q))
set_option maxRecDepth 100000 in
theorem b_Circuit_finish_67 {l : Launch} {Gr : zG} {n w : Nat} {d : Nat} {S : zS} {Q : Option Value → zS → Prop}   (k0 : zW l Gr (zc n w) 168 M_Circuit_finish (d + 1) 69 [some (.ref 56), some (.int 1), none] [] S Q) : zW l Gr (zc n w) 168 M_Circuit_finish (d + 1) 67 [some (.ref 56), none, none] [] S Q := by
  refine z_go (Gr := Gr) (zc := zc n w) (K := 168) oV_Circuit_finish 2 (pc' := 69) (L' := [some (.ref 56), some (.int 1), none]) (st' := []) rfl ?_
  exact k0
set_option maxRecDepth 100000 in
theorem b_Circuit_finish_18 {l : Launch} {Gr : zG} {n w : Nat} {d : Nat} {S : zS} {Q : Option Value → zS → Prop} {x1 : Int32} (g0 : vp_in x1 40000) (k0 : (S.1 28 ((x1 : Int32).toNatClampNeg)) = (-1) → zW l Gr (zc n w) 168 M_Circuit_finish (d + 1) 61 [some (.ref 56), some (.int x1), none] [] S Q) (k1 : ¬ (S.1 28 ((x1 : Int32).toNatClampNeg)) = (-1) → zW l Gr (zc n w) 168 M_Circuit_finish (d + 1) 28 [some (.ref 56), some (.int x1), none] [] S Q) : zW l Gr (zc n w) 168 M_Circuit_finish (d + 1) 18 [some (.ref 56), some (.int x1), none] [] S Q := by
  refine z_go (Gr := Gr) (zc := zc n w) (K := 168) oV_Circuit_finish 3 (pc' := 23) (L' := [some (.ref 56), some (.int x1), none]) (st' := [.int x1, .ref 60]) rfl ?_
  refine z_iald (Gr := Gr) (c := 28) (oV_Circuit_finish.1 (23, .iaload) (ip_lk_mem rfl)) (by decide) rfl g0 ?_
  refine z_go (Gr := Gr) (zc := zc n w) (K := 168) oV_Circuit_finish 1 (pc' := 25) (L' := [some (.ref 56), some (.int x1), none]) (st' := [.int (-1), .int (S.1 28 ((x1 : Int32).toNatClampNeg))]) rfl ?_
  exact z_iceq (Gr := Gr) (tgt := 61) (oV_Circuit_finish.1 (25, .if_icmp .eq 36) (ip_lk_mem rfl)) (by decide) (fun q => (k0 q)) (fun q => (k1 q))
set_option maxRecDepth 100000 in
theorem b_Circuit_finish_69 {l : Launch} {Gr : zG} {n w : Nat} {d : Nat} {S : zS} {Q : Option Value → zS → Prop} {x1 : Int32}  (k0 : 2003 ≤ x1 → zW l Gr (zc n w) 168 M_Circuit_finish (d + 1) 101 [some (.ref 56), none, none] [] S Q) (k1 : ¬ 2003 ≤ x1 → zW l Gr (zc n w) 168 M_Circuit_finish (d + 1) 78 [some (.ref 56), some (.int x1), none] [] S Q) : zW l Gr (zc n w) 168 M_Circuit_finish (d + 1) 69 [some (.ref 56), some (.int x1), none] [] S Q := by
  refine z_go (Gr := Gr) (zc := zc n w) (K := 168) oV_Circuit_finish 4 (pc' := 75) (L' := [some (.ref 56), some (.int x1), none]) (st' := [.int 2003, .int x1]) rfl ?_
  exact z_icge (Gr := Gr) (tgt := 101) (oV_Circuit_finish.1 (75, .if_icmp .ge 26) (ip_lk_mem rfl)) (by decide) (fun q => (z_forget (k0 q) (And.intro rfl trivial))) (fun q => (k1 q))
set_option maxRecDepth 100000 in
theorem b_Circuit_finish_61 {l : Launch} {Gr : zG} {n w : Nat} {d : Nat} {S : zS} {Q : Option Value → zS → Prop} {x1 : Int32}  (k0 : zW l Gr (zc n w) 168 M_Circuit_finish (d + 1) 10 [some (.ref 56), some (.int (x1 + Int32.ofInt 1)), none] [] S Q) : zW l Gr (zc n w) 168 M_Circuit_finish (d + 1) 61 [some (.ref 56), some (.int x1), none] [] S Q := by
  refine z_go (Gr := Gr) (zc := zc n w) (K := 168) oV_Circuit_finish 2 (pc' := 10) (L' := [some (.ref 56), some (.int (x1 + Int32.ofInt 1)), none]) (st' := []) rfl ?_
  exact k0
set_option maxRecDepth 100000 in
theorem b_Circuit_finish_28 {l : Launch} {Gr : zG} {n w : Nat} {d : Nat} {S : zS} {Q : Option Value → zS → Prop} {x1 : Int32} (g0 : vp_in x1 40000) (k0 : 2003 ≤ ((S.1 27 ((x1 : Int32).toNatClampNeg)) + 2) → zW l Gr (zc n w) 168 M_Circuit_finish (d + 1) 61 [some (.ref 56), some (.int x1), none] [] S Q) (k1 : ¬ 2003 ≤ ((S.1 27 ((x1 : Int32).toNatClampNeg)) + 2) → zW l Gr (zc n w) 168 M_Circuit_finish (d + 1) 44 [some (.ref 56), some (.int x1), none] [] S Q) : zW l Gr (zc n w) 168 M_Circuit_finish (d + 1) 28 [some (.ref 56), some (.int x1), none] [] S Q := by
  refine z_go (Gr := Gr) (zc := zc n w) (K := 168) oV_Circuit_finish 3 (pc' := 33) (L' := [some (.ref 56), some (.int x1), none]) (st' := [.int x1, .ref 59]) rfl ?_
  refine z_iald (Gr := Gr) (c := 27) (oV_Circuit_finish.1 (33, .iaload) (ip_lk_mem rfl)) (by decide) rfl g0 ?_
  refine z_go (Gr := Gr) (zc := zc n w) (K := 168) oV_Circuit_finish 5 (pc' := 41) (L' := [some (.ref 56), some (.int x1), none]) (st' := [.int 2003, .int ((S.1 27 ((x1 : Int32).toNatClampNeg)) + 2)]) rfl ?_
  exact z_icge (Gr := Gr) (tgt := 61) (oV_Circuit_finish.1 (41, .if_icmp .ge 20) (ip_lk_mem rfl)) (by decide) (fun q => (k0 q)) (fun q => (k1 q))
set_option maxRecDepth 100000 in
theorem b_Circuit_finish_101 {l : Launch} {Gr : zG} {n w : Nat} {d : Nat} {S : zS} {Q : Option Value → zS → Prop}   (k0 : zW l Gr (zc n w) 168 M_Circuit_finish (d + 1) 103 [some (.ref 56), some (.int 0), none] [] S Q) : zW l Gr (zc n w) 168 M_Circuit_finish (d + 1) 101 [some (.ref 56), none, none] [] S Q := by
  refine z_go (Gr := Gr) (zc := zc n w) (K := 168) oV_Circuit_finish 2 (pc' := 103) (L' := [some (.ref 56), some (.int 0), none]) (st' := []) rfl ?_
  exact k0
set_option maxRecDepth 100000 in
theorem b_Circuit_finish_78 {l : Launch} {Gr : zG} {n w : Nat} {d : Nat} {S : zS} {Q : Option Value → zS → Prop} {x1 : Int32} (g0 : vp_in x1 2003) (g1 : vp_in (x1 - 1) 2003) (k0 : zW l Gr (zc n w) 168 M_Circuit_finish (d + 1) 69 [some (.ref 56), some (.int (x1 + Int32.ofInt 1)), none] [] (zi S 30 ((x1 : Int32).toNatClampNeg) ((S.1 30 ((x1 : Int32).toNatClampNeg)) + (S.1 30 (((x1 - 1) : Int32).toNatClampNeg)))) Q) : zW l Gr (zc n w) 168 M_Circuit_finish (d + 1) 78 [some (.ref 56), some (.int x1), none] [] S Q := by
  refine z_go (Gr := Gr) (zc := zc n w) (K := 168) oV_Circuit_finish 4 (pc' := 84) (L' := [some (.ref 56), some (.int x1), none]) (st' := [.int x1, .ref 62, .int x1, .ref 62]) rfl ?_
  refine z_iald (Gr := Gr) (c := 30) (oV_Circuit_finish.1 (84, .iaload) (ip_lk_mem rfl)) (by decide) rfl g0 ?_
  refine z_go (Gr := Gr) (zc := zc n w) (K := 168) oV_Circuit_finish 5 (pc' := 92) (L' := [some (.ref 56), some (.int x1), none]) (st' := [.int (x1 - 1), .ref 62, .int (S.1 30 ((x1 : Int32).toNatClampNeg)), .int x1, .ref 62]) rfl ?_
  refine z_iald (Gr := Gr) (c := 30) (oV_Circuit_finish.1 (92, .iaload) (ip_lk_mem rfl)) (by decide) rfl g1 ?_
  refine z_go (Gr := Gr) (zc := zc n w) (K := 168) oV_Circuit_finish 1 (pc' := 94) (L' := [some (.ref 56), some (.int x1), none]) (st' := [.int ((S.1 30 ((x1 : Int32).toNatClampNeg)) + (S.1 30 (((x1 - 1) : Int32).toNatClampNeg))), .int x1, .ref 62]) rfl ?_
  refine z_iast (Gr := Gr) (c := 30) (oV_Circuit_finish.1 (94, .iastore) (ip_lk_mem rfl)) (by decide) (fun _ => rfl) g0 ?_
  refine z_go (Gr := Gr) (zc := zc n w) (K := 168) oV_Circuit_finish 2 (pc' := 69) (L' := [some (.ref 56), some (.int (x1 + Int32.ofInt 1)), none]) (st' := []) rfl ?_
  exact k0
set_option maxRecDepth 100000 in
theorem b_Circuit_finish_44 {l : Launch} {Gr : zG} {n w : Nat} {d : Nat} {S : zS} {Q : Option Value → zS → Prop} {x1 : Int32} (g0 : vp_in x1 40000) (g1 : vp_in ((S.1 27 ((x1 : Int32).toNatClampNeg)) + 2) 2003) (k0 : zW l Gr (zc n w) 168 M_Circuit_finish (d + 1) 61 [some (.ref 56), some (.int x1), none] [] (zi S 30 ((((S.1 27 ((x1 : Int32).toNatClampNeg)) + 2) : Int32).toNatClampNeg) ((S.1 30 ((((S.1 27 ((x1 : Int32).toNatClampNeg)) + 2) : Int32).toNatClampNeg)) + 1)) Q) : zW l Gr (zc n w) 168 M_Circuit_finish (d + 1) 44 [some (.ref 56), some (.int x1), none] [] S Q := by
  refine z_go (Gr := Gr) (zc := zc n w) (K := 168) oV_Circuit_finish 5 (pc' := 53) (L' := [some (.ref 56), some (.int x1), none]) (st' := [.int x1, .ref 59, .ref 62]) rfl ?_
  refine z_iald (Gr := Gr) (c := 27) (oV_Circuit_finish.1 (53, .iaload) (ip_lk_mem rfl)) (by decide) rfl g0 ?_
  refine z_go (Gr := Gr) (zc := zc n w) (K := 168) oV_Circuit_finish 3 (pc' := 57) (L' := [some (.ref 56), some (.int x1), none]) (st' := [.int ((S.1 27 ((x1 : Int32).toNatClampNeg)) + 2), .ref 62, .int ((S.1 27 ((x1 : Int32).toNatClampNeg)) + 2), .ref 62]) rfl ?_
  refine z_iald (Gr := Gr) (c := 30) (oV_Circuit_finish.1 (57, .iaload) (ip_lk_mem rfl)) (by decide) rfl g1 ?_
  refine z_go (Gr := Gr) (zc := zc n w) (K := 168) oV_Circuit_finish 2 (pc' := 60) (L' := [some (.ref 56), some (.int x1), none]) (st' := [.int ((S.1 30 ((((S.1 27 ((x1 : Int32).toNatClampNeg)) + 2) : Int32).toNatClampNeg)) + 1), .int ((S.1 27 ((x1 : Int32).toNatClampNeg)) + 2), .ref 62]) rfl ?_
  refine z_iast (Gr := Gr) (c := 30) (oV_Circuit_finish.1 (60, .iastore) (ip_lk_mem rfl)) (by decide) (fun _ => rfl) g1 ?_
  exact k0
set_option maxRecDepth 100000 in
theorem b_Circuit_finish_103 {l : Launch} {Gr : zG} {n w : Nat} {d : Nat} {S : zS} {Q : Option Value → zS → Prop} {x1 : Int32}  (k0 : (S.1 24 4) ≤ x1 → zW l Gr (zc n w) 168 M_Circuit_finish (d + 1) 178 [none, none, none] [] S Q) (k1 : ¬ (S.1 24 4) ≤ x1 → zW l Gr (zc n w) 168 M_Circuit_finish (d + 1) 111 [some (.ref 56), some (.int x1), none] [] S Q) : zW l Gr (zc n w) 168 M_Circuit_finish (d + 1) 103 [some (.ref 56), some (.int x1), none] [] S Q := by
  refine z_go (Gr := Gr) (zc := zc n w) (K := 168) oV_Circuit_finish 3 (pc' := 108) (L' := [some (.ref 56), some (.int x1), none]) (st' := [.int (S.1 24 4), .int x1]) rfl ?_
  exact z_icge (Gr := Gr) (tgt := 178) (oV_Circuit_finish.1 (108, .if_icmp .ge 70) (ip_lk_mem rfl)) (by decide) (fun q => (z_forget (k0 q) trivial)) (fun q => (k1 q))
set_option maxRecDepth 100000 in
theorem b_Circuit_finish_178 {l : Launch} {Gr : zG} {n w : Nat} {d : Nat} {S : zS} {Q : Option Value → zS → Prop}   (k0 : Q none S) : zW l Gr (zc n w) 168 M_Circuit_finish (d + 1) 178 [none, none, none] [] S Q := by
  exact z_ret (v := none) (oV_Circuit_finish.1 (178, .return_) (ip_lk_mem rfl)) k0
set_option maxRecDepth 100000 in
theorem b_Circuit_finish_111 {l : Launch} {Gr : zG} {n w : Nat} {d : Nat} {S : zS} {Q : Option Value → zS → Prop} {x1 : Int32} (g0 : vp_in x1 40000) (k0 : (S.1 28 ((x1 : Int32).toNatClampNeg)) = (-1) → zW l Gr (zc n w) 168 M_Circuit_finish (d + 1) 172 [some (.ref 56), some (.int x1), none] [] S Q) (k1 : ¬ (S.1 28 ((x1 : Int32).toNatClampNeg)) = (-1) → zW l Gr (zc n w) 168 M_Circuit_finish (d + 1) 130 [some (.ref 56), some (.int x1), some (.int ((S.1 27 ((x1 : Int32).toNatClampNeg)) + 1))] [] S Q) : zW l Gr (zc n w) 168 M_Circuit_finish (d + 1) 111 [some (.ref 56), some (.int x1), none] [] S Q := by
  refine z_go (Gr := Gr) (zc := zc n w) (K := 168) oV_Circuit_finish 3 (pc' := 116) (L' := [some (.ref 56), some (.int x1), none]) (st' := [.int x1, .ref 59]) rfl ?_
  refine z_iald (Gr := Gr) (c := 27) (oV_Circuit_finish.1 (116, .iaload) (ip_lk_mem rfl)) (by decide) rfl g0 ?_
  refine z_go (Gr := Gr) (zc := zc n w) (K := 168) oV_Circuit_finish 6 (pc' := 125) (L' := [some (.ref 56), some (.int x1), some (.int ((S.1 27 ((x1 : Int32).toNatClampNeg)) + 1))]) (st' := [.int x1, .ref 60]) rfl ?_
  refine z_iald (Gr := Gr) (c := 28) (oV_Circuit_finish.1 (125, .iaload) (ip_lk_mem rfl)) (by decide) rfl g0 ?_
  refine z_go (Gr := Gr) (zc := zc n w) (K := 168) oV_Circuit_finish 1 (pc' := 127) (L' := [some (.ref 56), some (.int x1), some (.int ((S.1 27 ((x1 : Int32).toNatClampNeg)) + 1))]) (st' := [.int (-1), .int (S.1 28 ((x1 : Int32).toNatClampNeg))]) rfl ?_
  exact z_iceq (Gr := Gr) (tgt := 172) (oV_Circuit_finish.1 (127, .if_icmp .eq 45) (ip_lk_mem rfl)) (by decide) (fun q => (z_forget (k0 q) (And.intro rfl (And.intro rfl trivial)))) (fun q => (k1 q))
set_option maxRecDepth 100000 in
theorem b_Circuit_finish_172 {l : Launch} {Gr : zG} {n w : Nat} {d : Nat} {S : zS} {Q : Option Value → zS → Prop} {x1 : Int32}  (k0 : zW l Gr (zc n w) 168 M_Circuit_finish (d + 1) 103 [some (.ref 56), some (.int (x1 + Int32.ofInt 1)), none] [] S Q) : zW l Gr (zc n w) 168 M_Circuit_finish (d + 1) 172 [some (.ref 56), some (.int x1), none] [] S Q := by
  refine z_go (Gr := Gr) (zc := zc n w) (K := 168) oV_Circuit_finish 2 (pc' := 103) (L' := [some (.ref 56), some (.int (x1 + Int32.ofInt 1)), none]) (st' := []) rfl ?_
  exact k0
set_option maxRecDepth 100000 in
theorem b_Circuit_finish_130 {l : Launch} {Gr : zG} {n w : Nat} {d : Nat} {S : zS} {Q : Option Value → zS → Prop} {x1 : Int32} {x2 : Int32}  (k0 : 2003 ≤ x2 → zW l Gr (zc n w) 168 M_Circuit_finish (d + 1) 172 [some (.ref 56), some (.int x1), none] [] S Q) (k1 : ¬ 2003 ≤ x2 → zW l Gr (zc n w) 168 M_Circuit_finish (d + 1) 139 [some (.ref 56), some (.int x1), some (.int x2)] [] S Q) : zW l Gr (zc n w) 168 M_Circuit_finish (d + 1) 130 [some (.ref 56), some (.int x1), some (.int x2)] [] S Q := by
  refine z_go (Gr := Gr) (zc := zc n w) (K := 168) oV_Circuit_finish 4 (pc' := 136) (L' := [some (.ref 56), some (.int x1), some (.int x2)]) (st' := [.int 2003, .int x2]) rfl ?_
  exact z_icge (Gr := Gr) (tgt := 172) (oV_Circuit_finish.1 (136, .if_icmp .ge 36) (ip_lk_mem rfl)) (by decide) (fun q => (z_forget (k0 q) (And.intro rfl (And.intro rfl trivial)))) (fun q => (k1 q))
set_option maxRecDepth 100000 in
theorem b_Circuit_finish_139 {l : Launch} {Gr : zG} {n w : Nat} {d : Nat} {S : zS} {Q : Option Value → zS → Prop} {x1 : Int32} {x2 : Int32} (g0 : vp_in x2 2003) (k0 : 40000 ≤ (S.1 30 ((x2 : Int32).toNatClampNeg)) → zW l Gr (zc n w) 168 M_Circuit_finish (d + 1) 172 [some (.ref 56), some (.int x1), none] [] S Q) (k1 : ¬ 40000 ≤ (S.1 30 ((x2 : Int32).toNatClampNeg)) → zW l Gr (zc n w) 168 M_Circuit_finish (d + 1) 150 [some (.ref 56), some (.int x1), some (.int x2)] [] S Q) : zW l Gr (zc n w) 168 M_Circuit_finish (d + 1) 139 [some (.ref 56), some (.int x1), some (.int x2)] [] S Q := by
  refine z_go (Gr := Gr) (zc := zc n w) (K := 168) oV_Circuit_finish 3 (pc' := 144) (L' := [some (.ref 56), some (.int x1), some (.int x2)]) (st' := [.int x2, .ref 62]) rfl ?_
  refine z_iald (Gr := Gr) (c := 30) (oV_Circuit_finish.1 (144, .iaload) (ip_lk_mem rfl)) (by decide) rfl g0 ?_
  refine z_go (Gr := Gr) (zc := zc n w) (K := 168) oV_Circuit_finish 1 (pc' := 147) (L' := [some (.ref 56), some (.int x1), some (.int x2)]) (st' := [.int 40000, .int (S.1 30 ((x2 : Int32).toNatClampNeg))]) rfl ?_
  exact z_icge (Gr := Gr) (tgt := 172) (oV_Circuit_finish.1 (147, .if_icmp .ge 25) (ip_lk_mem rfl)) (by decide) (fun q => (z_forget (k0 q) (And.intro rfl (And.intro rfl trivial)))) (fun q => (k1 q))
set_option maxRecDepth 100000 in
theorem b_Circuit_finish_150 {l : Launch} {Gr : zG} {n w : Nat} {d : Nat} {S : zS} {Q : Option Value → zS → Prop} {x1 : Int32} {x2 : Int32} (g0 : vp_in x2 2003) (g1 : vp_in (S.1 30 ((x2 : Int32).toNatClampNeg)) 40000) (k0 : zW l Gr (zc n w) 168 M_Circuit_finish (d + 1) 172 [some (.ref 56), some (.int x1), none] [] (zi (zi S 29 (((S.1 30 ((x2 : Int32).toNatClampNeg)) : Int32).toNatClampNeg) x1) 30 ((x2 : Int32).toNatClampNeg) ((S.1 30 ((x2 : Int32).toNatClampNeg)) + 1)) Q) : zW l Gr (zc n w) 168 M_Circuit_finish (d + 1) 150 [some (.ref 56), some (.int x1), some (.int x2)] [] S Q := by
  refine z_go (Gr := Gr) (zc := zc n w) (K := 168) oV_Circuit_finish 5 (pc' := 159) (L' := [some (.ref 56), some (.int x1), some (.int x2)]) (st' := [.int x2, .ref 62, .ref 61]) rfl ?_
  refine z_iald (Gr := Gr) (c := 30) (oV_Circuit_finish.1 (159, .iaload) (ip_lk_mem rfl)) (by decide) rfl g0 ?_
  refine z_go (Gr := Gr) (zc := zc n w) (K := 168) oV_Circuit_finish 1 (pc' := 161) (L' := [some (.ref 56), some (.int x1), some (.int x2)]) (st' := [.int x1, .int (S.1 30 ((x2 : Int32).toNatClampNeg)), .ref 61]) rfl ?_
  refine z_iast (Gr := Gr) (c := 29) (oV_Circuit_finish.1 (161, .iastore) (ip_lk_mem rfl)) (by decide) (fun _ => rfl) g1 ?_
  refine z_go (Gr := Gr) (zc := zc n w) (K := 168) oV_Circuit_finish 4 (pc' := 168) (L' := [some (.ref 56), some (.int x1), some (.int x2)]) (st' := [.int x2, .ref 62, .int x2, .ref 62]) rfl ?_
  refine z_iald (Gr := Gr) (c := 30) (oV_Circuit_finish.1 (168, .iaload) (ip_lk_mem rfl)) (by decide) rfl g0 ?_
  refine z_topI (v := (S.1 30 ((x2 : Int32).toNatClampNeg))) (zi_c (by decide)) ?_
  refine z_go (Gr := Gr) (zc := zc n w) (K := 168) oV_Circuit_finish 2 (pc' := 171) (L' := [some (.ref 56), some (.int x1), some (.int x2)]) (st' := [.int ((S.1 30 ((x2 : Int32).toNatClampNeg)) + 1), .int x2, .ref 62]) rfl ?_
  refine z_iast (Gr := Gr) (c := 30) (oV_Circuit_finish.1 (171, .iastore) (ip_lk_mem rfl)) (by decide) (fun _ => rfl) g0 ?_
  exact (z_forget k0 (And.intro rfl (And.intro rfl trivial)))
theorem e_Circuit_finish {l : Launch} {Gr : zG} {n w : Nat} {d : Nat} {S : zS} {R : zS → Prop}  (k : zW l Gr (zc n w) 168 M_Circuit_finish (d + 1) 0 [some (.ref 56), none, none] [] S (fun v S' => v = none ∧ R S')) : zMv l Gr (zc n w) 168 M_Circuit_finish (d + 1) [.ref 56] S R := z_mv oM_Circuit_finish rfl (Nat.le_of_ble_eq_true rfl) k
set_option maxRecDepth 100000 in
theorem b_H_compile_0 {l : Launch} {Gr : zG} {n w : Nat} {d : Nat} {S : zS} {Q : Option Value → zS → Prop} {R : zS → Prop} (hg : ip_gk (lg_tbl, vwCl, Gr))   (k0 : zMv l Gr (zc n w) 168 M_Code_clear d [.ref 35] (zi (zi (zi S 0 14 0) 0 15 0) 0 16 0) R) (k1 : ∀ S', R S' → zW l Gr (zc n w) 168 M_H_compile (d + 1) 22 [some (.ref 32)] [] S' Q) : zW l Gr (zc n w) 168 M_H_compile (d + 1) 0 [some (.ref 32)] [] S Q := by
  refine z_go (Gr := Gr) (zc := zc n w) (K := 168) oV_H_compile 2 (pc' := 2) (L' := [some (.ref 32)]) (st' := [.int 0, .ref 32]) rfl ?_
  refine z_putI (Gr := Gr) (c := 0) (oV_H_compile.1 (2, .putfield 131) (ip_lk_mem rfl)) (oV_H_compile.2.1 (131, 11, 14, .boolean, false) (ip_lk_mem rfl)).1 (by decide) (zo_0 _ _ _ _) (zs_0_14 _ _ _ _ _) (zn_0_14 _ _ _ _) (by decide) ?_
  refine z_go (Gr := Gr) (zc := zc n w) (K := 168) oV_H_compile 2 (pc' := 7) (L' := [some (.ref 32)]) (st' := [.int 0, .ref 32]) rfl ?_
  refine z_putI (Gr := Gr) (c := 0) (oV_H_compile.1 (7, .putfield 135) (ip_lk_mem rfl)) (oV_H_compile.2.1 (135, 11, 15, .boolean, false) (ip_lk_mem rfl)).1 (by decide) (zo_0 _ _ _ _) (zs_0_15 _ _ _ _ _) (zn_0_15 _ _ _ _) (by decide) ?_
  refine z_go (Gr := Gr) (zc := zc n w) (K := 168) oV_H_compile 2 (pc' := 12) (L' := [some (.ref 32)]) (st' := [.int 0, .ref 32]) rfl ?_
  refine z_putI (Gr := Gr) (c := 0) (oV_H_compile.1 (12, .putfield 138) (ip_lk_mem rfl)) (oV_H_compile.2.1 (138, 11, 16, .boolean, false) (ip_lk_mem rfl)).1 (by decide) (zo_0 _ _ _ _) (zs_0_16 _ _ _ _ _) (zn_0_16 _ _ _ _) (by decide) ?_
  refine z_go (Gr := Gr) (zc := zc n w) (K := 168) oV_H_compile 2 (pc' := 19) (L' := [some (.ref 32)]) (st' := [.ref 35]) rfl ?_
  exact z_callV (Gr := Gr) hg.2.2.1 fT oM_Code_clear (oV_H_compile.1 (19, .invokevirtual 141) (ip_lk_mem rfl)) ⟨tt_3 _ (List.mem_of_getElem? (i := 153) rfl) rfl, tt_3 _ (List.mem_of_getElem? (i := 154) rfl) rfl, tt_3 _ (List.mem_of_getElem? (i := 155) rfl) rfl⟩ (c := 3) (ci := 2) (As := []) rfl rfl rfl (by decide) rfl (Nat.le_of_ble_eq_true rfl) k0 (fun v S' q => by obtain ⟨rfl, q⟩ := q; exact (k1 _ q))
set_option maxRecDepth 100000 in
theorem b_H_compile_22 {l : Launch} {Gr : zG} {n w : Nat} {d : Nat} {S : zS} {Q : Option Value → zS → Prop} {R : zS → Prop} (hg : ip_gk (lg_tbl, vwCl, Gr))   (k0 : zMv l Gr (zc n w) 168 M_Names_clear d [.ref 40, .int (S.1 0 4)] S R) (k1 : ∀ S', R S' → zW l Gr (zc n w) 168 M_H_compile (d + 1) 33 [some (.ref 32)] [] S' Q) : zW l Gr (zc n w) 168 M_H_compile (d + 1) 22 [some (.ref 32)] [] S Q := by
  refine z_go (Gr := Gr) (zc := zc n w) (K := 168) oV_H_compile 4 (pc' := 30) (L' := [some (.ref 32)]) (st' := [.int (S.1 0 4), .ref 40]) rfl ?_
  exact z_callV (Gr := Gr) hg.2.2.1 fT oM_Names_clear (oV_H_compile.1 (30, .invokevirtual 144) (ip_lk_mem rfl)) ⟨tt_3 _ (List.mem_of_getElem? (i := 157) rfl) rfl, tt_3 _ (List.mem_of_getElem? (i := 158) rfl) rfl, tt_3 _ (List.mem_of_getElem? (i := 159) rfl) rfl⟩ (c := 8) (ci := 6) (As := [.int (S.1 0 4)]) rfl rfl rfl (by decide) rfl (Nat.le_of_ble_eq_true rfl) k0 (fun v S' q => by obtain ⟨rfl, q⟩ := q; exact (k1 _ q))
set_option maxRecDepth 100000 in
theorem b_H_compile_33 {l : Launch} {Gr : zG} {n w : Nat} {d : Nat} {S : zS} {Q : Option Value → zS → Prop} {R : zS → Prop} (hg : ip_gk (lg_tbl, vwCl, Gr))   (k0 : zMv l Gr (zc n w) 168 M_Inputs_clear d [.ref 49] S R) (k1 : ∀ S', R S' → zW l Gr (zc n w) 168 M_H_compile (d + 1) 40 [some (.ref 32)] [] S' Q) : zW l Gr (zc n w) 168 M_H_compile (d + 1) 33 [some (.ref 32)] [] S Q := by
  refine z_go (Gr := Gr) (zc := zc n w) (K := 168) oV_H_compile 2 (pc' := 37) (L' := [some (.ref 32)]) (st' := [.ref 49]) rfl ?_
  exact z_callV (Gr := Gr) hg.2.2.1 fT oM_Inputs_clear (oV_H_compile.1 (37, .invokevirtual 146) (ip_lk_mem rfl)) ⟨tt_3 _ (List.mem_of_getElem? (i := 161) rfl) rfl, tt_3 _ (List.mem_of_getElem? (i := 162) rfl) rfl, tt_3 _ (List.mem_of_getElem? (i := 163) rfl) rfl⟩ (c := 17) (ci := 4) (As := []) rfl rfl rfl (by decide) rfl (Nat.le_of_ble_eq_true rfl) k0 (fun v S' q => by obtain ⟨rfl, q⟩ := q; exact (k1 _ q))
set_option maxRecDepth 100000 in
theorem b_H_compile_40 {l : Launch} {Gr : zG} {n w : Nat} {d : Nat} {S : zS} {Q : Option Value → zS → Prop} {R : zS → Prop} (hg : ip_gk (lg_tbl, vwCl, Gr))   (k0 : zMv l Gr (zc n w) 168 M_Reader_readProgram d [.ref 66, .int (S.1 0 4)] S R) (k1 : ∀ S', R S' → zW l Gr (zc n w) 168 M_H_compile (d + 1) 51 [some (.ref 32)] [] S' Q) : zW l Gr (zc n w) 168 M_H_compile (d + 1) 40 [some (.ref 32)] [] S Q := by
  refine z_go (Gr := Gr) (zc := zc n w) (K := 168) oV_H_compile 4 (pc' := 48) (L' := [some (.ref 32)]) (st' := [.int (S.1 0 4), .ref 66]) rfl ?_
  exact z_callV (Gr := Gr) hg.2.2.1 fT oM_Reader_readProgram (oV_H_compile.1 (48, .invokevirtual 147) (ip_lk_mem rfl)) ⟨tt_3 _ (List.mem_of_getElem? (i := 168) rfl) rfl, tt_3 _ (List.mem_of_getElem? (i := 169) rfl) rfl, tt_3 _ (List.mem_of_getElem? (i := 170) rfl) rfl⟩ (c := 34) (ci := 8) (As := [.int (S.1 0 4)]) rfl rfl rfl (by decide) rfl (Nat.le_of_ble_eq_true rfl) k0 (fun v S' q => by obtain ⟨rfl, q⟩ := q; exact (k1 _ q))
set_option maxRecDepth 100000 in
theorem b_H_compile_51 {l : Launch} {Gr : zG} {n w : Nat} {d : Nat} {S : zS} {Q : Option Value → zS → Prop}   (k0 : ¬ (S.1 3 5) = 0 → zW l Gr (zc n w) 168 M_H_compile (d + 1) 68 [some (.ref 32)] [] S Q) (k1 : (S.1 3 5) = 0 → zW l Gr (zc n w) 168 M_H_compile (d + 1) 61 [some (.ref 32)] [] S Q) : zW l Gr (zc n w) 168 M_H_compile (d + 1) 51 [some (.ref 32)] [] S Q := by
  refine z_go (Gr := Gr) (zc := zc n w) (K := 168) oV_H_compile 3 (pc' := 58) (L' := [some (.ref 32)]) (st' := [.int (S.1 3 5)]) rfl ?_
  exact z_ifne (Gr := Gr) (tgt := 68) (oV_H_compile.1 (58, .ifCond .ne 10) (ip_lk_mem rfl)) (by decide) (fun q => (k0 q)) (fun q => (k1 q))
set_option maxRecDepth 100000 in
theorem b_H_compile_68 {l : Launch} {Gr : zG} {n w : Nat} {d : Nat} {S : zS} {Q : Option Value → zS → Prop}   (k0 : ¬ (S.1 3 5) = 0 → zW l Gr (zc n w) 168 M_H_compile (d + 1) 99 [some (.ref 32)] [] S Q) (k1 : (S.1 3 5) = 0 → zW l Gr (zc n w) 168 M_H_compile (d + 1) 78 [some (.ref 32)] [] S Q) : zW l Gr (zc n w) 168 M_H_compile (d + 1) 68 [some (.ref 32)] [] S Q := by
  refine z_go (Gr := Gr) (zc := zc n w) (K := 168) oV_H_compile 3 (pc' := 75) (L' := [some (.ref 32)]) (st' := [.int (S.1 3 5)]) rfl ?_
  exact z_ifne (Gr := Gr) (tgt := 99) (oV_H_compile.1 (75, .ifCond .ne 24) (ip_lk_mem rfl)) (by decide) (fun q => (k0 q)) (fun q => (k1 q))
set_option maxRecDepth 100000 in
theorem b_H_compile_61 {l : Launch} {Gr : zG} {n w : Nat} {d : Nat} {S : zS} {Q : Option Value → zS → Prop} {R : zS → Prop} (hg : ip_gk (lg_tbl, vwCl, Gr))   (k0 : zMv l Gr (zc n w) 168 M_Sorts_check d [.ref 71] S R) (k1 : ∀ S', R S' → zW l Gr (zc n w) 168 M_H_compile (d + 1) 68 [some (.ref 32)] [] S' Q) : zW l Gr (zc n w) 168 M_H_compile (d + 1) 61 [some (.ref 32)] [] S Q := by
  refine z_go (Gr := Gr) (zc := zc n w) (K := 168) oV_H_compile 2 (pc' := 65) (L' := [some (.ref 32)]) (st' := [.ref 71]) rfl ?_
  exact z_callV (Gr := Gr) hg.2.2.1 fT oM_Sorts_check (oV_H_compile.1 (65, .invokevirtual 153) (ip_lk_mem rfl)) ⟨tt_4 _ (List.mem_of_getElem? (i := 152) rfl) rfl, tt_4 _ (List.mem_of_getElem? (i := 153) rfl) rfl, tt_4 _ (List.mem_of_getElem? (i := 154) rfl) rfl⟩ (c := 39) (ci := 9) (As := []) rfl rfl rfl (by decide) rfl (Nat.le_of_ble_eq_true rfl) k0 (fun v S' q => by obtain ⟨rfl, q⟩ := q; exact (k1 _ q))
set_option maxRecDepth 100000 in
theorem b_H_compile_99 {l : Launch} {Gr : zG} {n w : Nat} {d : Nat} {S : zS} {Q : Option Value → zS → Prop}   (k0 : ¬ (S.1 3 5) = 0 → zW l Gr (zc n w) 168 M_H_compile (d + 1) 129 [some (.ref 32)] [] (zi S 0 4 0) Q) (k1 : (S.1 3 5) = 0 → zW l Gr (zc n w) 168 M_H_compile (d + 1) 114 [some (.ref 32)] [] (zi S 0 4 0) Q) : zW l Gr (zc n w) 168 M_H_compile (d + 1) 99 [some (.ref 32)] [] S Q := by
  refine z_go (Gr := Gr) (zc := zc n w) (K := 168) oV_H_compile 2 (pc' := 101) (L' := [some (.ref 32)]) (st' := [.int 0, .ref 32]) rfl ?_
  refine z_putI (Gr := Gr) (c := 0) (oV_H_compile.1 (101, .putfield 112) (ip_lk_mem rfl)) (oV_H_compile.2.1 (112, 11, 4, .int, false) (ip_lk_mem rfl)).1 (by decide) (zo_0 _ _ _ _) (zs_0_4 _ _ _ _ _) (zn_0_4 _ _ _ _) rfl ?_
  refine z_go (Gr := Gr) (zc := zc n w) (K := 168) oV_H_compile 2 (pc' := 108) (L' := [some (.ref 32)]) (st' := [.ref 35]) rfl ?_
  refine z_getI (Gr := Gr) (c := 3) (oV_H_compile.1 (108, .getfield 150) (ip_lk_mem rfl)) (oV_H_compile.2.1 (150, 2, 5, .int, false) (ip_lk_mem rfl)).1 (by decide) (zo_3 _ _ _ _) (zg_3_5 _ _ _ _) (zi_c (by decide)) ?_
  exact z_ifne (Gr := Gr) (tgt := 129) (oV_H_compile.1 (111, .ifCond .ne 18) (ip_lk_mem rfl)) (by decide) (fun q => (k0 q)) (fun q => (k1 q))
set_option maxRecDepth 100000 in
theorem b_H_compile_78 {l : Launch} {Gr : zG} {n w : Nat} {d : Nat} {S : zS} {Q : Option Value → zS → Prop} {R : zS → Prop} (hg : ip_gk (lg_tbl, vwCl, Gr))   (k0 : zMv l Gr (zc n w) 168 M_Circuit_clear d [.ref 56, .int (S.1 17 7)] S R) (k1 : ∀ S', R S' → zW l Gr (zc n w) 168 M_H_compile (d + 1) 92 [some (.ref 32)] [] S' Q) : zW l Gr (zc n w) 168 M_H_compile (d + 1) 78 [some (.ref 32)] [] S Q := by
  refine z_go (Gr := Gr) (zc := zc n w) (K := 168) oV_H_compile 5 (pc' := 89) (L' := [some (.ref 32)]) (st' := [.int (S.1 17 7), .ref 56]) rfl ?_
  exact z_callV (Gr := Gr) hg.2.2.1 fT oM_Circuit_clear (oV_H_compile.1 (89, .invokevirtual 159) (ip_lk_mem rfl)) ⟨tt_5 _ (List.mem_of_getElem? (i := 32) rfl) rfl, tt_5 _ (List.mem_of_getElem? (i := 33) rfl) rfl, tt_5 _ (List.mem_of_getElem? (i := 34) rfl) rfl⟩ (c := 24) (ci := 1) (As := [.int (S.1 17 7)]) rfl rfl rfl (by decide) rfl (Nat.le_of_ble_eq_true rfl) k0 (fun v S' q => by obtain ⟨rfl, q⟩ := q; exact (k1 _ q))
set_option maxRecDepth 100000 in
theorem b_H_compile_129 {l : Launch} {Gr : zG} {n w : Nat} {d : Nat} {S : zS} {Q : Option Value → zS → Prop} {R : zS → Prop} (hg : ip_gk (lg_tbl, vwCl, Gr))   (k0 : zMv l Gr (zc n w) 168 M_Inputs_clear d [.ref 49] S R) (k1 : ∀ S', R S' → zW l Gr (zc n w) 168 M_H_compile (d + 1) 136 [some (.ref 32)] [] S' Q) : zW l Gr (zc n w) 168 M_H_compile (d + 1) 129 [some (.ref 32)] [] S Q := by
  refine z_go (Gr := Gr) (zc := zc n w) (K := 168) oV_H_compile 2 (pc' := 133) (L' := [some (.ref 32)]) (st' := [.ref 49]) rfl ?_
  exact z_callV (Gr := Gr) hg.2.2.1 fT oM_Inputs_clear (oV_H_compile.1 (133, .invokevirtual 146) (ip_lk_mem rfl)) ⟨tt_3 _ (List.mem_of_getElem? (i := 161) rfl) rfl, tt_3 _ (List.mem_of_getElem? (i := 162) rfl) rfl, tt_3 _ (List.mem_of_getElem? (i := 163) rfl) rfl⟩ (c := 17) (ci := 4) (As := []) rfl rfl rfl (by decide) rfl (Nat.le_of_ble_eq_true rfl) k0 (fun v S' q => by obtain ⟨rfl, q⟩ := q; exact (k1 _ q))
set_option maxRecDepth 100000 in
theorem b_H_compile_114 {l : Launch} {Gr : zG} {n w : Nat} {d : Nat} {S : zS} {Q : Option Value → zS → Prop} {R : zS → Prop} (hg : ip_gk (lg_tbl, vwCl, Gr))   (k0 : zMv l Gr (zc n w) 168 M_Circuit_finish d [.ref 56] S R) (k1 : ∀ S', R S' → zW l Gr (zc n w) 168 M_H_compile (d + 1) 121 [some (.ref 32)] [] S' Q) : zW l Gr (zc n w) 168 M_H_compile (d + 1) 114 [some (.ref 32)] [] S Q := by
  refine z_go (Gr := Gr) (zc := zc n w) (K := 168) oV_H_compile 2 (pc' := 118) (L' := [some (.ref 32)]) (st' := [.ref 56]) rfl ?_
  exact z_callV (Gr := Gr) hg.2.2.1 fT oM_Circuit_finish (oV_H_compile.1 (118, .invokevirtual 163) (ip_lk_mem rfl)) ⟨tt_6 _ (List.mem_of_getElem? (i := 23) rfl) rfl, tt_6 _ (List.mem_of_getElem? (i := 24) rfl) rfl, tt_6 _ (List.mem_of_getElem? (i := 25) rfl) rfl⟩ (c := 24) (ci := 1) (As := []) rfl rfl rfl (by decide) rfl (Nat.le_of_ble_eq_true rfl) k0 (fun v S' q => by obtain ⟨rfl, q⟩ := q; exact (k1 _ q))
set_option maxRecDepth 100000 in
theorem b_H_compile_92 {l : Launch} {Gr : zG} {n w : Nat} {d : Nat} {S : zS} {Q : Option Value → zS → Prop} {R : zS → Prop} (hg : ip_gk (lg_tbl, vwCl, Gr))   (k0 : zMv l Gr (zc n w) 168 M_Builder_build d [.ref 77] S R) (k1 : ∀ S', R S' → zW l Gr (zc n w) 168 M_H_compile (d + 1) 99 [some (.ref 32)] [] S' Q) : zW l Gr (zc n w) 168 M_H_compile (d + 1) 92 [some (.ref 32)] [] S Q := by
  refine z_go (Gr := Gr) (zc := zc n w) (K := 168) oV_H_compile 2 (pc' := 96) (L' := [some (.ref 32)]) (st' := [.ref 77]) rfl ?_
  exact z_callV (Gr := Gr) hg.2.2.1 fT oM_Builder_build (oV_H_compile.1 (96, .invokevirtual 160) (ip_lk_mem rfl)) ⟨tt_5 _ (List.mem_of_getElem? (i := 36) rfl) rfl, tt_5 _ (List.mem_of_getElem? (i := 37) rfl) rfl, tt_5 _ (List.mem_of_getElem? (i := 38) rfl) rfl⟩ (c := 45) (ci := 0) (As := []) rfl rfl rfl (by decide) rfl (Nat.le_of_ble_eq_true rfl) k0 (fun v S' q => by obtain ⟨rfl, q⟩ := q; exact (k1 _ q))
set_option maxRecDepth 100000 in
theorem b_H_compile_136 {l : Launch} {Gr : zG} {n w : Nat} {d : Nat} {S : zS} {Q : Option Value → zS → Prop}   (k0 : Q (some (.int (S.1 3 5))) S) : zW l Gr (zc n w) 168 M_H_compile (d + 1) 136 [some (.ref 32)] [] S Q := by
  refine z_go (Gr := Gr) (zc := zc n w) (K := 168) oV_H_compile 3 (pc' := 143) (L' := [some (.ref 32)]) (st' := [.int (S.1 3 5)]) rfl ?_
  exact z_ret (v := (some (.int (S.1 3 5)))) (oV_H_compile.1 (143, .ireturn) (ip_lk_mem rfl)) k0
set_option maxRecDepth 100000 in
theorem b_H_compile_121 {l : Launch} {Gr : zG} {n w : Nat} {d : Nat} {S : zS} {Q : Option Value → zS → Prop}   (k0 : zW l Gr (zc n w) 168 M_H_compile (d + 1) 136 [some (.ref 32)] [] (zi S 0 14 1) Q) : zW l Gr (zc n w) 168 M_H_compile (d + 1) 121 [some (.ref 32)] [] S Q := by
  refine z_go (Gr := Gr) (zc := zc n w) (K := 168) oV_H_compile 2 (pc' := 123) (L' := [some (.ref 32)]) (st' := [.int 1, .ref 32]) rfl ?_
  refine z_putI (Gr := Gr) (c := 0) (oV_H_compile.1 (123, .putfield 131) (ip_lk_mem rfl)) (oV_H_compile.2.1 (131, 11, 14, .boolean, false) (ip_lk_mem rfl)).1 (by decide) (zo_0 _ _ _ _) (zs_0_14 _ _ _ _ _) (zn_0_14 _ _ _ _) (by decide) ?_
  refine z_go (Gr := Gr) (zc := zc n w) (K := 168) oV_H_compile 1 (pc' := 136) (L' := [some (.ref 32)]) (st' := []) rfl ?_
  exact k0
theorem e_H_compile {l : Launch} {Gr : zG} {n w : Nat} {d : Nat} {S : zS} {R : Int32 → zS → Prop}  (k : zW l Gr (zc n w) 168 M_H_compile (d + 1) 0 [some (.ref 32)] [] S (fun v S' => ∃ x, v = some (.int x) ∧ R x S')) : zMi l Gr (zc n w) 168 M_H_compile (d + 1) [.ref 32] S R := z_mi oM_H_compile rfl (Nat.le_of_ble_eq_true rfl) k
