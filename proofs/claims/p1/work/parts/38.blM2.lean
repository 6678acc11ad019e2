set_option maxRecDepth 100000 in
theorem b_Mo_forget_0 {l : Launch} {Gr : zG} {n w : Nat} {d : Nat} {S : zS} {Q : Option Value → zS → Prop}   (k0 : Q none (zi (zi (zi (zi S 73 124 0) 73 139 0) 73 140 0) 73 119 0)) : zW l Gr (zc n w) 168 M_Mo_forget d 0 [some (.ref 105)] [] S Q := by
  refine z_go (Gr := Gr) (zc := zc n w) (K := 168) oV_Mo_forget 2 (pc' := 2) (L' := [some (.ref 105)]) (st' := [.int 0, .ref 105]) rfl ?_
  refine z_putI (Gr := Gr) (c := 73) (oV_Mo_forget.1 (2, .putfield 762) (ip_lk_mem rfl)) (oV_Mo_forget.2.1 (762, 12, 124, .boolean, false) (ip_lk_mem rfl)).1 (by decide) (zo_73 _ _ _ _) (zs_73_124 _ _ _ _ _) (zn_73_124 _ _ _ _) (by decide) ?_
  refine z_go (Gr := Gr) (zc := zc n w) (K := 168) oV_Mo_forget 2 (pc' := 7) (L' := [some (.ref 105)]) (st' := [.int 0, .ref 105]) rfl ?_
  refine z_putI (Gr := Gr) (c := 73) (oV_Mo_forget.1 (7, .putfield 818) (ip_lk_mem rfl)) (oV_Mo_forget.2.1 (818, 12, 139, .int, false) (ip_lk_mem rfl)).1 (by decide) (zo_73 _ _ _ _) (zs_73_139 _ _ _ _ _) (zn_73_139 _ _ _ _) rfl ?_
  refine z_go (Gr := Gr) (zc := zc n w) (K := 168) oV_Mo_forget 2 (pc' := 12) (L' := [some (.ref 105)]) (st' := [.int 0, .ref 105]) rfl ?_
  refine z_putI (Gr := Gr) (c := 73) (oV_Mo_forget.1 (12, .putfield 830) (ip_lk_mem rfl)) (oV_Mo_forget.2.1 (830, 12, 140, .int, false) (ip_lk_mem rfl)).1 (by decide) (zo_73 _ _ _ _) (zs_73_140 _ _ _ _ _) (zn_73_140 _ _ _ _) rfl ?_
  refine z_go (Gr := Gr) (zc := zc n w) (K := 168) oV_Mo_forget 2 (pc' := 17) (L' := [some (.ref 105)]) (st' := [.int 0, .ref 105]) rfl ?_
  refine z_putI (Gr := Gr) (c := 73) (oV_Mo_forget.1 (17, .putfield 777) (ip_lk_mem rfl)) (oV_Mo_forget.2.1 (777, 12, 119, .boolean, false) (ip_lk_mem rfl)).1 (by decide) (zo_73 _ _ _ _) (zs_73_119 _ _ _ _ _) (zn_73_119 _ _ _ _) (by decide) ?_
  exact z_ret (v := none) (oV_Mo_forget.1 (20, .return_) (ip_lk_mem rfl)) k0
theorem e_Mo_forget {l : Launch} {Gr : zG} {n w : Nat} {d : Nat} {S : zS} {R : zS → Prop}  (k : zW l Gr (zc n w) 168 M_Mo_forget d 0 [some (.ref 105)] [] S (fun v S' => v = none ∧ R S')) : zMv l Gr (zc n w) 168 M_Mo_forget d [.ref 105] S R := z_mv oM_Mo_forget rfl (Nat.le_of_ble_eq_true rfl) k
set_option maxRecDepth 100000 in
theorem b_Mo_look0_0 {l : Launch} {Gr : zG} {n w : Nat} {d : Nat} {S : zS} {Q : Option Value → zS → Prop} {x1 : Int32}  (k0 : (S.1 73 5) ≤ ((S.1 73 6) + x1) → zW l Gr (zc n w) 168 M_Mo_look0 d 27 [none, none] [] S Q) (k1 : ¬ (S.1 73 5) ≤ ((S.1 73 6) + x1) → zW l Gr (zc n w) 168 M_Mo_look0 d 13 [some (.ref 105), some (.int x1)] [] S Q) : zW l Gr (zc n w) 168 M_Mo_look0 d 0 [some (.ref 105), some (.int x1)] [] S Q := by
  refine z_go (Gr := Gr) (zc := zc n w) (K := 168) oV_Mo_look0 6 (pc' := 10) (L' := [some (.ref 105), some (.int x1)]) (st' := [.int (S.1 73 5), .int ((S.1 73 6) + x1)]) rfl ?_
  exact z_icge (Gr := Gr) (tgt := 27) (oV_Mo_look0.1 (10, .if_icmp .ge 17) (ip_lk_mem rfl)) (by decide) (fun q => (z_forget (k0 q) trivial)) (fun q => (k1 q))
set_option maxRecDepth 100000 in
theorem b_Mo_look0_27 {l : Launch} {Gr : zG} {n w : Nat} {d : Nat} {S : zS} {Q : Option Value → zS → Prop}   (k0 : zW l Gr (zc n w) 168 M_Mo_look0 d 28 [none, none] [.int (-1)] S Q) : zW l Gr (zc n w) 168 M_Mo_look0 d 27 [none, none] [] S Q := by
  refine z_go (Gr := Gr) (zc := zc n w) (K := 168) oV_Mo_look0 1 (pc' := 28) (L' := [none, none]) (st' := [.int (-1)]) rfl ?_
  exact k0
set_option maxRecDepth 100000 in
theorem b_Mo_look0_13 {l : Launch} {Gr : zG} {n w : Nat} {d : Nat} {S : zS} {Q : Option Value → zS → Prop} {x1 : Int32} (g0 : vp_in ((S.1 73 6) + x1) 4000) (k0 : zW l Gr (zc n w) 168 M_Mo_look0 d 28 [none, none] [.int (S.1 75 ((((S.1 73 6) + x1) : Int32).toNatClampNeg))] S Q) : zW l Gr (zc n w) 168 M_Mo_look0 d 13 [some (.ref 105), some (.int x1)] [] S Q := by
  refine z_go (Gr := Gr) (zc := zc n w) (K := 168) oV_Mo_look0 6 (pc' := 23) (L' := [some (.ref 105), some (.int x1)]) (st' := [.int ((S.1 73 6) + x1), .ref 107]) rfl ?_
  refine z_iald (Gr := Gr) (c := 75) (oV_Mo_look0.1 (23, .iaload) (ip_lk_mem rfl)) (by decide) rfl g0 ?_
  refine z_go (Gr := Gr) (zc := zc n w) (K := 168) oV_Mo_look0 1 (pc' := 28) (L' := [some (.ref 105), some (.int x1)]) (st' := [.int (S.1 75 ((((S.1 73 6) + x1) : Int32).toNatClampNeg))]) rfl ?_
  exact (z_forget k0 trivial)
set_option maxRecDepth 100000 in
theorem b_Mo_look0_28 {l : Launch} {Gr : zG} {n w : Nat} {d : Nat} {S : zS} {Q : Option Value → zS → Prop} {s0 : Int32}  (k0 : Q (some (.int s0)) S) : zW l Gr (zc n w) 168 M_Mo_look0 d 28 [none, none] [.int s0] S Q := by
  exact z_ret (v := (some (.int s0))) (oV_Mo_look0.1 (28, .ireturn) (ip_lk_mem rfl)) k0
theorem e_Mo_look0 {l : Launch} {Gr : zG} {n w : Nat} {d : Nat} {S : zS} {R : Int32 → zS → Prop} {x1 : Int32} (k : zW l Gr (zc n w) 168 M_Mo_look0 d 0 [some (.ref 105), some (.int x1)] [] S (fun v S' => ∃ x, v = some (.int x) ∧ R x S')) : zMi l Gr (zc n w) 168 M_Mo_look0 d [.ref 105, .int x1] S R := z_mi oM_Mo_look0 rfl (Nat.le_of_ble_eq_true rfl) k
set_option maxRecDepth 100000 in
theorem b_Mo_gap_0 {l : Launch} {Gr : zG} {n w : Nat} {d : Nat} {S : zS} {Q : Option Value → zS → Prop}   (k0 : zW l Gr (zc n w) 168 M_Mo_gap (d + 1) 2 [some (.ref 105), some (.int 1), none] [] S Q) : zW l Gr (zc n w) 168 M_Mo_gap (d + 1) 0 [some (.ref 105), none, none] [] S Q := by
  refine z_go (Gr := Gr) (zc := zc n w) (K := 168) oV_Mo_gap 2 (pc' := 2) (L' := [some (.ref 105), some (.int 1), none]) (st' := []) rfl ?_
  exact k0
set_option maxRecDepth 100000 in
theorem b_Mo_gap_2 {l : Launch} {Gr : zG} {n w : Nat} {d : Nat} {S : zS} {Q : Option Value → zS → Prop} {x1 : Int32}  (k0 : x1 = 0 → zW l Gr (zc n w) 168 M_Mo_gap (d + 1) 117 [none, none, none] [] S Q) (k1 : ¬ x1 = 0 → zW l Gr (zc n w) 168 M_Mo_gap (d + 1) 6 [some (.ref 105), none, none] [] S Q) : zW l Gr (zc n w) 168 M_Mo_gap (d + 1) 2 [some (.ref 105), some (.int x1), none] [] S Q := by
  refine z_go (Gr := Gr) (zc := zc n w) (K := 168) oV_Mo_gap 1 (pc' := 3) (L' := [some (.ref 105), some (.int x1), none]) (st' := [.int x1]) rfl ?_
  exact z_ifeq (Gr := Gr) (tgt := 117) (oV_Mo_gap.1 (3, .ifCond .eq 114) (ip_lk_mem rfl)) (by decide) (fun q => (z_forget (k0 q) trivial)) (fun q => (z_forget (k1 q) (And.intro rfl trivial)))
set_option maxRecDepth 100000 in
theorem b_Mo_gap_117 {l : Launch} {Gr : zG} {n w : Nat} {d : Nat} {S : zS} {Q : Option Value → zS → Prop}   (k0 : Q none S) : zW l Gr (zc n w) 168 M_Mo_gap (d + 1) 117 [none, none, none] [] S Q := by
  exact z_ret (v := none) (oV_Mo_gap.1 (117, .return_) (ip_lk_mem rfl)) k0
set_option maxRecDepth 100000 in
theorem b_Mo_gap_6 {l : Launch} {Gr : zG} {n w : Nat} {d : Nat} {S : zS} {Q : Option Value → zS → Prop} {R : Int32 → zS → Prop} (hg : ip_gk (lg_tbl, vwCl, Gr))   (k0 : zMi l Gr (zc n w) 168 M_Mo_look0 d [.ref 105, .int 0] S R) (k1 : ∀ v S', R v S' → zW l Gr (zc n w) 168 M_Mo_gap (d + 1) 11 [some (.ref 105), none, none] [.int v] S' Q) : zW l Gr (zc n w) 168 M_Mo_gap (d + 1) 6 [some (.ref 105), none, none] [] S Q := by
  refine z_go (Gr := Gr) (zc := zc n w) (K := 168) oV_Mo_gap 2 (pc' := 8) (L' := [some (.ref 105), none, none]) (st' := [.int 0, .ref 105]) rfl ?_
  exact z_callV (Gr := Gr) hg.2.2.1 fT oM_Mo_look0 (oV_Mo_gap.1 (8, .invokevirtual 329) (ip_lk_mem rfl)) ⟨tt_9 _ (List.mem_of_getElem? (i := 41) rfl) rfl, tt_9 _ (List.mem_of_getElem? (i := 43) rfl) rfl, fS_Mo_look0⟩ (c := 73) (ci := 12) (As := [.int 0]) rfl rfl rfl (by decide) rfl (Nat.le_of_ble_eq_true rfl) k0 (fun v S' q => by obtain ⟨x, rfl, q⟩ := q; exact (k1 _ _ q))
set_option maxRecDepth 100000 in
theorem b_Mo_gap_11 {l : Launch} {Gr : zG} {n w : Nat} {d : Nat} {S : zS} {Q : Option Value → zS → Prop} {s0 : Int32}  (k0 : s0 = 32 → zW l Gr (zc n w) 168 M_Mo_gap (d + 1) 36 [some (.ref 105), none, some (.int s0)] [] S Q) (k1 : ¬ s0 = 32 → zW l Gr (zc n w) 168 M_Mo_gap (d + 1) 18 [some (.ref 105), none, some (.int s0)] [] S Q) : zW l Gr (zc n w) 168 M_Mo_gap (d + 1) 11 [some (.ref 105), none, none] [.int s0] S Q := by
  refine z_go (Gr := Gr) (zc := zc n w) (K := 168) oV_Mo_gap 3 (pc' := 15) (L' := [some (.ref 105), none, some (.int s0)]) (st' := [.int 32, .int s0]) rfl ?_
  exact z_iceq (Gr := Gr) (tgt := 36) (oV_Mo_gap.1 (15, .if_icmp .eq 21) (ip_lk_mem rfl)) (by decide) (fun q => (k0 q)) (fun q => (k1 q))
set_option maxRecDepth 100000 in
theorem b_Mo_gap_36 {l : Launch} {Gr : zG} {n w : Nat} {d : Nat} {S : zS} {Q : Option Value → zS → Prop} {x2 : Int32}  (k0 : zW l Gr (zc n w) 168 M_Mo_gap (d + 1) 41 [some (.ref 105), none, some (.int x2)] [.int 1] S Q) : zW l Gr (zc n w) 168 M_Mo_gap (d + 1) 36 [some (.ref 105), none, some (.int x2)] [] S Q := by
  refine z_go (Gr := Gr) (zc := zc n w) (K := 168) oV_Mo_gap 2 (pc' := 41) (L' := [some (.ref 105), none, some (.int x2)]) (st' := [.int 1]) rfl ?_
  exact k0
set_option maxRecDepth 100000 in
theorem b_Mo_gap_18 {l : Launch} {Gr : zG} {n w : Nat} {d : Nat} {S : zS} {Q : Option Value → zS → Prop} {x2 : Int32}  (k0 : x2 = 9 → zW l Gr (zc n w) 168 M_Mo_gap (d + 1) 36 [some (.ref 105), none, some (.int x2)] [] S Q) (k1 : ¬ x2 = 9 → zW l Gr (zc n w) 168 M_Mo_gap (d + 1) 24 [some (.ref 105), none, some (.int x2)] [] S Q) : zW l Gr (zc n w) 168 M_Mo_gap (d + 1) 18 [some (.ref 105), none, some (.int x2)] [] S Q := by
  refine z_go (Gr := Gr) (zc := zc n w) (K := 168) oV_Mo_gap 2 (pc' := 21) (L' := [some (.ref 105), none, some (.int x2)]) (st' := [.int 9, .int x2]) rfl ?_
  exact z_iceq (Gr := Gr) (tgt := 36) (oV_Mo_gap.1 (21, .if_icmp .eq 15) (ip_lk_mem rfl)) (by decide) (fun q => (k0 q)) (fun q => (k1 q))
set_option maxRecDepth 100000 in
theorem b_Mo_gap_41 {l : Launch} {Gr : zG} {n w : Nat} {d : Nat} {S : zS} {Q : Option Value → zS → Prop} {x2 : Int32} {s0 : Int32}  (k0 : ¬ x2 = 35 → zW l Gr (zc n w) 168 M_Mo_gap (d + 1) 100 [some (.ref 105), some (.int s0), none] [] S Q) (k1 : x2 = 35 → zW l Gr (zc n w) 168 M_Mo_gap (d + 1) 48 [some (.ref 105), some (.int s0), none] [] S Q) : zW l Gr (zc n w) 168 M_Mo_gap (d + 1) 41 [some (.ref 105), none, some (.int x2)] [.int s0] S Q := by
  refine z_go (Gr := Gr) (zc := zc n w) (K := 168) oV_Mo_gap 3 (pc' := 45) (L' := [some (.ref 105), some (.int s0), some (.int x2)]) (st' := [.int 35, .int x2]) rfl ?_
  exact z_icne (Gr := Gr) (tgt := 100) (oV_Mo_gap.1 (45, .if_icmp .ne 55) (ip_lk_mem rfl)) (by decide) (fun q => (z_forget (k0 q) (And.intro rfl (And.intro rfl trivial)))) (fun q => (z_forget (k1 q) (And.intro rfl (And.intro rfl trivial))))
set_option maxRecDepth 100000 in
theorem b_Mo_gap_24 {l : Launch} {Gr : zG} {n w : Nat} {d : Nat} {S : zS} {Q : Option Value → zS → Prop} {x2 : Int32}  (k0 : x2 = 10 → zW l Gr (zc n w) 168 M_Mo_gap (d + 1) 36 [some (.ref 105), none, some (.int x2)] [] S Q) (k1 : ¬ x2 = 10 → zW l Gr (zc n w) 168 M_Mo_gap (d + 1) 30 [some (.ref 105), none, some (.int x2)] [] S Q) : zW l Gr (zc n w) 168 M_Mo_gap (d + 1) 24 [some (.ref 105), none, some (.int x2)] [] S Q := by
  refine z_go (Gr := Gr) (zc := zc n w) (K := 168) oV_Mo_gap 2 (pc' := 27) (L' := [some (.ref 105), none, some (.int x2)]) (st' := [.int 10, .int x2]) rfl ?_
  exact z_iceq (Gr := Gr) (tgt := 36) (oV_Mo_gap.1 (27, .if_icmp .eq 9) (ip_lk_mem rfl)) (by decide) (fun q => (k0 q)) (fun q => (k1 q))
set_option maxRecDepth 100000 in
theorem b_Mo_gap_100 {l : Launch} {Gr : zG} {n w : Nat} {d : Nat} {S : zS} {Q : Option Value → zS → Prop} {x1 : Int32}  (k0 : x1 = 0 → zW l Gr (zc n w) 168 M_Mo_gap (d + 1) 114 [some (.ref 105), some (.int x1), none] [] S Q) (k1 : ¬ x1 = 0 → zW l Gr (zc n w) 168 M_Mo_gap (d + 1) 104 [some (.ref 105), some (.int x1), none] [] S Q) : zW l Gr (zc n w) 168 M_Mo_gap (d + 1) 100 [some (.ref 105), some (.int x1), none] [] S Q := by
  refine z_go (Gr := Gr) (zc := zc n w) (K := 168) oV_Mo_gap 1 (pc' := 101) (L' := [some (.ref 105), some (.int x1), none]) (st' := [.int x1]) rfl ?_
  exact z_ifeq (Gr := Gr) (tgt := 114) (oV_Mo_gap.1 (101, .ifCond .eq 13) (ip_lk_mem rfl)) (by decide) (fun q => (k0 q)) (fun q => (k1 q))
set_option maxRecDepth 100000 in
theorem b_Mo_gap_48 {l : Launch} {Gr : zG} {n w : Nat} {d : Nat} {S : zS} {Q : Option Value → zS → Prop} {x1 : Int32}  (k0 : (S.1 73 5) ≤ (S.1 73 6) → zW l Gr (zc n w) 168 M_Mo_gap (d + 1) 114 [some (.ref 105), some (.int x1), none] [] S Q) (k1 : ¬ (S.1 73 5) ≤ (S.1 73 6) → zW l Gr (zc n w) 168 M_Mo_gap (d + 1) 59 [some (.ref 105), some (.int x1), none] [] S Q) : zW l Gr (zc n w) 168 M_Mo_gap (d + 1) 48 [some (.ref 105), some (.int x1), none] [] S Q := by
  refine z_go (Gr := Gr) (zc := zc n w) (K := 168) oV_Mo_gap 4 (pc' := 56) (L' := [some (.ref 105), some (.int x1), none]) (st' := [.int (S.1 73 5), .int (S.1 73 6)]) rfl ?_
  exact z_icge (Gr := Gr) (tgt := 114) (oV_Mo_gap.1 (56, .if_icmp .ge 58) (ip_lk_mem rfl)) (by decide) (fun q => (k0 q)) (fun q => (k1 q))
set_option maxRecDepth 100000 in
theorem b_Mo_gap_30 {l : Launch} {Gr : zG} {n w : Nat} {d : Nat} {S : zS} {Q : Option Value → zS → Prop} {x2 : Int32}  (k0 : ¬ x2 = 35 → zW l Gr (zc n w) 168 M_Mo_gap (d + 1) 40 [some (.ref 105), none, some (.int x2)] [] S Q) (k1 : x2 = 35 → zW l Gr (zc n w) 168 M_Mo_gap (d + 1) 36 [some (.ref 105), none, some (.int x2)] [] S Q) : zW l Gr (zc n w) 168 M_Mo_gap (d + 1) 30 [some (.ref 105), none, some (.int x2)] [] S Q := by
  refine z_go (Gr := Gr) (zc := zc n w) (K := 168) oV_Mo_gap 2 (pc' := 33) (L' := [some (.ref 105), none, some (.int x2)]) (st' := [.int 35, .int x2]) rfl ?_
  exact z_icne (Gr := Gr) (tgt := 40) (oV_Mo_gap.1 (33, .if_icmp .ne 7) (ip_lk_mem rfl)) (by decide) (fun q => (k0 q)) (fun q => (k1 q))
set_option maxRecDepth 100000 in
theorem b_Mo_gap_114 {l : Launch} {Gr : zG} {n w : Nat} {d : Nat} {S : zS} {Q : Option Value → zS → Prop} {x1 : Int32}  (k0 : zW l Gr (zc n w) 168 M_Mo_gap (d + 1) 2 [some (.ref 105), some (.int x1), none] [] S Q) : zW l Gr (zc n w) 168 M_Mo_gap (d + 1) 114 [some (.ref 105), some (.int x1), none] [] S Q := by
  refine z_go (Gr := Gr) (zc := zc n w) (K := 168) oV_Mo_gap 1 (pc' := 2) (L' := [some (.ref 105), some (.int x1), none]) (st' := []) rfl ?_
  exact k0
set_option maxRecDepth 100000 in
theorem b_Mo_gap_104 {l : Launch} {Gr : zG} {n w : Nat} {d : Nat} {S : zS} {Q : Option Value → zS → Prop} {x1 : Int32}  (k0 : zW l Gr (zc n w) 168 M_Mo_gap (d + 1) 114 [some (.ref 105), some (.int x1), none] [] (zi S 73 6 ((S.1 73 6) + 1)) Q) : zW l Gr (zc n w) 168 M_Mo_gap (d + 1) 104 [some (.ref 105), some (.int x1), none] [] S Q := by
  refine z_go (Gr := Gr) (zc := zc n w) (K := 168) oV_Mo_gap 5 (pc' := 111) (L' := [some (.ref 105), some (.int x1), none]) (st' := [.int ((S.1 73 6) + 1), .ref 105]) rfl ?_
  refine z_putI (Gr := Gr) (c := 73) (oV_Mo_gap.1 (111, .putfield 326) (ip_lk_mem rfl)) (oV_Mo_gap.2.1 (326, 12, 6, .int, false) (ip_lk_mem rfl)).1 (by decide) (zo_73 _ _ _ _) (zs_73_6 _ _ _ _ _) (zn_73_6 _ _ _ _) rfl ?_
  exact k0
set_option maxRecDepth 100000 in
theorem b_Mo_gap_59 {l : Launch} {Gr : zG} {n w : Nat} {d : Nat} {S : zS} {Q : Option Value → zS → Prop} {x1 : Int32}  (k0 : 4000 ≤ (S.1 73 6) → zW l Gr (zc n w) 168 M_Mo_gap (d + 1) 80 [some (.ref 105), some (.int x1), none] [.ref 107] S Q) (k1 : ¬ 4000 ≤ (S.1 73 6) → zW l Gr (zc n w) 168 M_Mo_gap (d + 1) 73 [some (.ref 105), some (.int x1), none] [.ref 107] S Q) : zW l Gr (zc n w) 168 M_Mo_gap (d + 1) 59 [some (.ref 105), some (.int x1), none] [] S Q := by
  refine z_go (Gr := Gr) (zc := zc n w) (K := 168) oV_Mo_gap 5 (pc' := 70) (L' := [some (.ref 105), some (.int x1), none]) (st' := [.int 4000, .int (S.1 73 6), .ref 107]) rfl ?_
  exact z_icge (Gr := Gr) (tgt := 80) (oV_Mo_gap.1 (70, .if_icmp .ge 10) (ip_lk_mem rfl)) (by decide) (fun q => (k0 q)) (fun q => (k1 q))
set_option maxRecDepth 100000 in
theorem b_Mo_gap_40 {l : Launch} {Gr : zG} {n w : Nat} {d : Nat} {S : zS} {Q : Option Value → zS → Prop} {x2 : Int32}  (k0 : zW l Gr (zc n w) 168 M_Mo_gap (d + 1) 41 [some (.ref 105), none, some (.int x2)] [.int 0] S Q) : zW l Gr (zc n w) 168 M_Mo_gap (d + 1) 40 [some (.ref 105), none, some (.int x2)] [] S Q := by
  refine z_go (Gr := Gr) (zc := zc n w) (K := 168) oV_Mo_gap 1 (pc' := 41) (L' := [some (.ref 105), none, some (.int x2)]) (st' := [.int 0]) rfl ?_
  exact k0
set_option maxRecDepth 100000 in
theorem b_Mo_gap_80 {l : Launch} {Gr : zG} {n w : Nat} {d : Nat} {S : zS} {Q : Option Value → zS → Prop} {x1 : Int32}  (k0 : zW l Gr (zc n w) 168 M_Mo_gap (d + 1) 81 [some (.ref 105), some (.int x1), none] [.int 0, .ref 107] S Q) : zW l Gr (zc n w) 168 M_Mo_gap (d + 1) 80 [some (.ref 105), some (.int x1), none] [.ref 107] S Q := by
  refine z_go (Gr := Gr) (zc := zc n w) (K := 168) oV_Mo_gap 1 (pc' := 81) (L' := [some (.ref 105), some (.int x1), none]) (st' := [.int 0, .ref 107]) rfl ?_
  exact k0
set_option maxRecDepth 100000 in
theorem b_Mo_gap_73 {l : Launch} {Gr : zG} {n w : Nat} {d : Nat} {S : zS} {Q : Option Value → zS → Prop} {x1 : Int32}  (k0 : zW l Gr (zc n w) 168 M_Mo_gap (d + 1) 81 [some (.ref 105), some (.int x1), none] [.int (S.1 73 6), .ref 107] S Q) : zW l Gr (zc n w) 168 M_Mo_gap (d + 1) 73 [some (.ref 105), some (.int x1), none] [.ref 107] S Q := by
  refine z_go (Gr := Gr) (zc := zc n w) (K := 168) oV_Mo_gap 3 (pc' := 81) (L' := [some (.ref 105), some (.int x1), none]) (st' := [.int (S.1 73 6), .ref 107]) rfl ?_
  exact k0
set_option maxRecDepth 100000 in
theorem b_Mo_gap_81 {l : Launch} {Gr : zG} {n w : Nat} {d : Nat} {S : zS} {Q : Option Value → zS → Prop} {x1 : Int32} {s0 : Int32} (g0 : vp_in s0 4000) (k0 : (S.1 75 ((s0 : Int32).toNatClampNeg)) = 10 → zW l Gr (zc n w) 168 M_Mo_gap (d + 1) 114 [some (.ref 105), some (.int x1), none] [] S Q) (k1 : ¬ (S.1 75 ((s0 : Int32).toNatClampNeg)) = 10 → zW l Gr (zc n w) 168 M_Mo_gap (d + 1) 87 [some (.ref 105), some (.int x1), none] [] S Q) : zW l Gr (zc n w) 168 M_Mo_gap (d + 1) 81 [some (.ref 105), some (.int x1), none] [.int s0, .ref 107] S Q := by
  refine z_iald (Gr := Gr) (c := 75) (oV_Mo_gap.1 (81, .iaload) (ip_lk_mem rfl)) (by decide) rfl g0 ?_
  refine z_go (Gr := Gr) (zc := zc n w) (K := 168) oV_Mo_gap 1 (pc' := 84) (L' := [some (.ref 105), some (.int x1), none]) (st' := [.int 10, .int (S.1 75 ((s0 : Int32).toNatClampNeg))]) rfl ?_
  exact z_iceq (Gr := Gr) (tgt := 114) (oV_Mo_gap.1 (84, .if_icmp .eq 30) (ip_lk_mem rfl)) (by decide) (fun q => (k0 q)) (fun q => (k1 q))
set_option maxRecDepth 100000 in
theorem b_Mo_gap_87 {l : Launch} {Gr : zG} {n w : Nat} {d : Nat} {S : zS} {Q : Option Value → zS → Prop} {x1 : Int32}  (k0 : zW l Gr (zc n w) 168 M_Mo_gap (d + 1) 48 [some (.ref 105), some (.int x1), none] [] (zi S 73 6 ((S.1 73 6) + 1)) Q) : zW l Gr (zc n w) 168 M_Mo_gap (d + 1) 87 [some (.ref 105), some (.int x1), none] [] S Q := by
  refine z_go (Gr := Gr) (zc := zc n w) (K := 168) oV_Mo_gap 5 (pc' := 94) (L' := [some (.ref 105), some (.int x1), none]) (st' := [.int ((S.1 73 6) + 1), .ref 105]) rfl ?_
  refine z_putI (Gr := Gr) (c := 73) (oV_Mo_gap.1 (94, .putfield 326) (ip_lk_mem rfl)) (oV_Mo_gap.2.1 (326, 12, 6, .int, false) (ip_lk_mem rfl)).1 (by decide) (zo_73 _ _ _ _) (zs_73_6 _ _ _ _ _) (zn_73_6 _ _ _ _) rfl ?_
  refine z_go (Gr := Gr) (zc := zc n w) (K := 168) oV_Mo_gap 1 (pc' := 48) (L' := [some (.ref 105), some (.int x1), none]) (st' := []) rfl ?_
  exact k0
theorem e_Mo_gap {l : Launch} {Gr : zG} {n w : Nat} {d : Nat} {S : zS} {R : zS → Prop}  (k : zW l Gr (zc n w) 168 M_Mo_gap (d + 1) 0 [some (.ref 105), none, none] [] S (fun v S' => v = none ∧ R S')) : zMv l Gr (zc n w) 168 M_Mo_gap (d + 1) [.ref 105] S R := z_mv oM_Mo_gap rfl (Nat.le_of_ble_eq_true rfl) k
set_option maxRecDepth 100000 in
theorem b_Mo_program_0 {l : Launch} {Gr : zG} {n w : Nat} {d : Nat} {S : zS} {Q : Option Value → zS → Prop}   (k0 : zW l Gr (zc n w) 168 M_Mo_program (d + 1) 42 [some (.ref 105), some (.int 1), none] [] (zi (zi (zi (zi (zi (zi (zi (zi S 73 6 0) 73 13 0) 73 9 0) 73 26 0) 73 20 0) 73 19 0) 73 29 0) 73 30 0) Q) : zW l Gr (zc n w) 168 M_Mo_program (d + 1) 0 [some (.ref 105), none, none] [] S Q := by
  refine z_go (Gr := Gr) (zc := zc n w) (K := 168) oV_Mo_program 2 (pc' := 2) (L' := [some (.ref 105), none, none]) (st' := [.int 0, .ref 105]) rfl ?_
  refine z_putI (Gr := Gr) (c := 73) (oV_Mo_program.1 (2, .putfield 326) (ip_lk_mem rfl)) (oV_Mo_program.2.1 (326, 12, 6, .int, false) (ip_lk_mem rfl)).1 (by decide) (zo_73 _ _ _ _) (zs_73_6 _ _ _ _ _) (zn_73_6 _ _ _ _) rfl ?_
  refine z_go (Gr := Gr) (zc := zc n w) (K := 168) oV_Mo_program 2 (pc' := 7) (L' := [some (.ref 105), none, none]) (st' := [.int 0, .ref 105]) rfl ?_
  refine z_putI (Gr := Gr) (c := 73) (oV_Mo_program.1 (7, .putfield 411) (ip_lk_mem rfl)) (oV_Mo_program.2.1 (411, 12, 13, .int, false) (ip_lk_mem rfl)).1 (by decide) (zo_73 _ _ _ _) (zs_73_13 _ _ _ _ _) (zn_73_13 _ _ _ _) rfl ?_
  refine z_go (Gr := Gr) (zc := zc n w) (K := 168) oV_Mo_program 2 (pc' := 12) (L' := [some (.ref 105), none, none]) (st' := [.int 0, .ref 105]) rfl ?_
  refine z_putI (Gr := Gr) (c := 73) (oV_Mo_program.1 (12, .putfield 393) (ip_lk_mem rfl)) (oV_Mo_program.2.1 (393, 12, 9, .int, false) (ip_lk_mem rfl)).1 (by decide) (zo_73 _ _ _ _) (zs_73_9 _ _ _ _ _) (zn_73_9 _ _ _ _) rfl ?_
  refine z_go (Gr := Gr) (zc := zc n w) (K := 168) oV_Mo_program 2 (pc' := 17) (L' := [some (.ref 105), none, none]) (st' := [.int 0, .ref 105]) rfl ?_
  refine z_putI (Gr := Gr) (c := 73) (oV_Mo_program.1 (17, .putfield 501) (ip_lk_mem rfl)) (oV_Mo_program.2.1 (501, 12, 26, .int, false) (ip_lk_mem rfl)).1 (by decide) (zo_73 _ _ _ _) (zs_73_26 _ _ _ _ _) (zn_73_26 _ _ _ _) rfl ?_
  refine z_go (Gr := Gr) (zc := zc n w) (K := 168) oV_Mo_program 2 (pc' := 22) (L' := [some (.ref 105), none, none]) (st' := [.int 0, .ref 105]) rfl ?_
  refine z_putI (Gr := Gr) (c := 73) (oV_Mo_program.1 (22, .putfield 417) (ip_lk_mem rfl)) (oV_Mo_program.2.1 (417, 12, 20, .int, false) (ip_lk_mem rfl)).1 (by decide) (zo_73 _ _ _ _) (zs_73_20 _ _ _ _ _) (zn_73_20 _ _ _ _) rfl ?_
  refine z_go (Gr := Gr) (zc := zc n w) (K := 168) oV_Mo_program 2 (pc' := 27) (L' := [some (.ref 105), none, none]) (st' := [.int 0, .ref 105]) rfl ?_
  refine z_putI (Gr := Gr) (c := 73) (oV_Mo_program.1 (27, .putfield 414) (ip_lk_mem rfl)) (oV_Mo_program.2.1 (414, 12, 19, .int, false) (ip_lk_mem rfl)).1 (by decide) (zo_73 _ _ _ _) (zs_73_19 _ _ _ _ _) (zn_73_19 _ _ _ _) rfl ?_
  refine z_go (Gr := Gr) (zc := zc n w) (K := 168) oV_Mo_program 2 (pc' := 32) (L' := [some (.ref 105), none, none]) (st' := [.int 0, .ref 105]) rfl ?_
  refine z_putI (Gr := Gr) (c := 73) (oV_Mo_program.1 (32, .putfield 488) (ip_lk_mem rfl)) (oV_Mo_program.2.1 (488, 12, 29, .int, false) (ip_lk_mem rfl)).1 (by decide) (zo_73 _ _ _ _) (zs_73_29 _ _ _ _ _) (zn_73_29 _ _ _ _) rfl ?_
  refine z_go (Gr := Gr) (zc := zc n w) (K := 168) oV_Mo_program 2 (pc' := 37) (L' := [some (.ref 105), none, none]) (st' := [.int 0, .ref 105]) rfl ?_
  refine z_putI (Gr := Gr) (c := 73) (oV_Mo_program.1 (37, .putfield 493) (ip_lk_mem rfl)) (oV_Mo_program.2.1 (493, 12, 30, .int, false) (ip_lk_mem rfl)).1 (by decide) (zo_73 _ _ _ _) (zs_73_30 _ _ _ _ _) (zn_73_30 _ _ _ _) rfl ?_
  refine z_go (Gr := Gr) (zc := zc n w) (K := 168) oV_Mo_program 2 (pc' := 42) (L' := [some (.ref 105), some (.int 1), none]) (st' := []) rfl ?_
  exact k0
set_option maxRecDepth 100000 in
theorem b_Mo_program_42 {l : Launch} {Gr : zG} {n w : Nat} {d : Nat} {S : zS} {Q : Option Value → zS → Prop} {x1 : Int32}  (k0 : x1 = 0 → zW l Gr (zc n w) 168 M_Mo_program (d + 1) 254 [none, none, none] [] S Q) (k1 : ¬ x1 = 0 → zW l Gr (zc n w) 168 M_Mo_program (d + 1) 46 [some (.ref 105), some (.int x1), none] [] S Q) : zW l Gr (zc n w) 168 M_Mo_program (d + 1) 42 [some (.ref 105), some (.int x1), none] [] S Q := by
  refine z_go (Gr := Gr) (zc := zc n w) (K := 168) oV_Mo_program 1 (pc' := 43) (L' := [some (.ref 105), some (.int x1), none]) (st' := [.int x1]) rfl ?_
  exact z_ifeq (Gr := Gr) (tgt := 254) (oV_Mo_program.1 (43, .ifCond .eq 211) (ip_lk_mem rfl)) (by decide) (fun q => (z_forget (k0 q) trivial)) (fun q => (k1 q))
set_option maxRecDepth 100000 in
theorem b_Mo_program_254 {l : Launch} {Gr : zG} {n w : Nat} {d : Nat} {S : zS} {Q : Option Value → zS → Prop}   (k0 : Q none S) : zW l Gr (zc n w) 168 M_Mo_program (d + 1) 254 [none, none, none] [] S Q := by
  exact z_ret (v := none) (oV_Mo_program.1 (254, .return_) (ip_lk_mem rfl)) k0
set_option maxRecDepth 100000 in
theorem b_Mo_program_46 {l : Launch} {Gr : zG} {n w : Nat} {d : Nat} {S : zS} {Q : Option Value → zS → Prop} {x1 : Int32}  (k0 : ¬ (S.1 73 7) = 0 → zW l Gr (zc n w) 168 M_Mo_program (d + 1) 254 [none, none, none] [] S Q) (k1 : (S.1 73 7) = 0 → zW l Gr (zc n w) 168 M_Mo_program (d + 1) 53 [some (.ref 105), some (.int x1), none] [] S Q) : zW l Gr (zc n w) 168 M_Mo_program (d + 1) 46 [some (.ref 105), some (.int x1), none] [] S Q := by
  refine z_go (Gr := Gr) (zc := zc n w) (K := 168) oV_Mo_program 2 (pc' := 50) (L' := [some (.ref 105), some (.int x1), none]) (st' := [.int (S.1 73 7)]) rfl ?_
  exact z_ifne (Gr := Gr) (tgt := 254) (oV_Mo_program.1 (50, .ifCond .ne 204) (ip_lk_mem rfl)) (by decide) (fun q => (z_forget (k0 q) trivial)) (fun q => (k1 q))
set_option maxRecDepth 100000 in
theorem b_Mo_program_53 {l : Launch} {Gr : zG} {n w : Nat} {d : Nat} {S : zS} {Q : Option Value → zS → Prop} {R : zS → Prop} (hg : ip_gk (lg_tbl, vwCl, Gr)) {x1 : Int32}  (k0 : zMv l Gr (zc n w) 168 M_Mo_gap d [.ref 105] S R) (k1 : ∀ S', R S' → zW l Gr (zc n w) 168 M_Mo_program (d + 1) 57 [some (.ref 105), some (.int x1), none] [] S' Q) : zW l Gr (zc n w) 168 M_Mo_program (d + 1) 53 [some (.ref 105), some (.int x1), none] [] S Q := by
  refine z_go (Gr := Gr) (zc := zc n w) (K := 168) oV_Mo_program 1 (pc' := 54) (L' := [some (.ref 105), some (.int x1), none]) (st' := [.ref 105]) rfl ?_
  exact z_callV (Gr := Gr) hg.2.2.1 fT oM_Mo_gap (oV_Mo_program.1 (54, .invokevirtual 383) (ip_lk_mem rfl)) ⟨tt_9 _ (List.mem_of_getElem? (i := 37) rfl) rfl, tt_9 _ (List.mem_of_getElem? (i := 39) rfl) rfl, fS_Mo_gap⟩ (c := 73) (ci := 12) (As := []) rfl rfl rfl (by decide) rfl (Nat.le_of_ble_eq_true rfl) k0 (fun v S' q => by obtain ⟨rfl, q⟩ := q; exact (k1 _ q))
set_option maxRecDepth 100000 in
theorem b_Mo_program_57 {l : Launch} {Gr : zG} {n w : Nat} {d : Nat} {S : zS} {Q : Option Value → zS → Prop} {x1 : Int32}  (k0 : ¬ (S.1 73 6) = (S.1 73 5) → zW l Gr (zc n w) 168 M_Mo_program (d + 1) 94 [some (.ref 105), some (.int x1), some (.int (S.1 73 6))] [] S Q) (k1 : (S.1 73 6) = (S.1 73 5) → zW l Gr (zc n w) 168 M_Mo_program (d + 1) 73 [some (.ref 105), none, none] [] S Q) : zW l Gr (zc n w) 168 M_Mo_program (d + 1) 57 [some (.ref 105), some (.int x1), none] [] S Q := by
  refine z_go (Gr := Gr) (zc := zc n w) (K := 168) oV_Mo_program 7 (pc' := 70) (L' := [some (.ref 105), some (.int x1), some (.int (S.1 73 6))]) (st' := [.int (S.1 73 5), .int (S.1 73 6)]) rfl ?_
  exact z_icne (Gr := Gr) (tgt := 94) (oV_Mo_program.1 (70, .if_icmp .ne 24) (ip_lk_mem rfl)) (by decide) (fun q => (k0 q)) (fun q => (z_forget (k1 q) (And.intro rfl trivial)))
set_option maxRecDepth 100000 in
theorem b_Mo_program_94 {l : Launch} {Gr : zG} {n w : Nat} {d : Nat} {S : zS} {Q : Option Value → zS → Prop} {R : Int32 → zS → Prop} (hg : ip_gk (lg_tbl, vwCl, Gr)) {x1 : Int32} {x2 : Int32}  (k0 : zMi l Gr (zc n w) 168 M_Mo_isSign d [.ref 105, .int 125] S R) (k1 : ∀ v S', R v S' → zW l Gr (zc n w) 168 M_Mo_program (d + 1) 100 [some (.ref 105), some (.int x1), some (.int x2)] [.int v] S' Q) : zW l Gr (zc n w) 168 M_Mo_program (d + 1) 94 [some (.ref 105), some (.int x1), some (.int x2)] [] S Q := by
  refine z_go (Gr := Gr) (zc := zc n w) (K := 168) oV_Mo_program 2 (pc' := 97) (L' := [some (.ref 105), some (.int x1), some (.int x2)]) (st' := [.int 125, .ref 105]) rfl ?_
  exact z_callV (Gr := Gr) hg.2.2.1 fT oM_Mo_isSign (oV_Mo_program.1 (97, .invokevirtual 408) (ip_lk_mem rfl)) ⟨tt_9 _ (List.mem_of_getElem? (i := 49) rfl) rfl, tt_9 _ (List.mem_of_getElem? (i := 51) rfl) rfl, fS_Mo_isSign⟩ (c := 73) (ci := 12) (As := [.int 125]) rfl rfl rfl (by decide) rfl (Nat.le_of_ble_eq_true rfl) k0 (fun v S' q => by obtain ⟨x, rfl, q⟩ := q; exact (k1 _ _ q))
set_option maxRecDepth 100000 in
theorem b_Mo_program_73 {l : Launch} {Gr : zG} {n w : Nat} {d : Nat} {S : zS} {Q : Option Value → zS → Prop}   (k0 : (S.1 73 26) ≤ 0 → zW l Gr (zc n w) 168 M_Mo_program (d + 1) 89 [some (.ref 105), none, none] [] S Q) (k1 : ¬ (S.1 73 26) ≤ 0 → zW l Gr (zc n w) 168 M_Mo_program (d + 1) 80 [some (.ref 105), none, none] [] S Q) : zW l Gr (zc n w) 168 M_Mo_program (d + 1) 73 [some (.ref 105), none, none] [] S Q := by
  refine z_go (Gr := Gr) (zc := zc n w) (K := 168) oV_Mo_program 2 (pc' := 77) (L' := [some (.ref 105), none, none]) (st' := [.int (S.1 73 26)]) rfl ?_
  exact z_ifle (Gr := Gr) (tgt := 89) (oV_Mo_program.1 (77, .ifCond .le 12) (ip_lk_mem rfl)) (by decide) (fun q => (k0 q)) (fun q => (k1 q))
set_option maxRecDepth 100000 in
theorem b_Mo_program_100 {l : Launch} {Gr : zG} {n w : Nat} {d : Nat} {S : zS} {Q : Option Value → zS → Prop} {x1 : Int32} {x2 : Int32} {s0 : Int32}  (k0 : s0 = 0 → zW l Gr (zc n w) 168 M_Mo_program (d + 1) 117 [some (.ref 105), some (.int x1), some (.int x2)] [] S Q) (k1 : ¬ s0 = 0 → zW l Gr (zc n w) 168 M_Mo_program (d + 1) 103 [some (.ref 105), some (.int x1), some (.int x2)] [] S Q) : zW l Gr (zc n w) 168 M_Mo_program (d + 1) 100 [some (.ref 105), some (.int x1), some (.int x2)] [.int s0] S Q := by
  exact z_ifeq (Gr := Gr) (tgt := 117) (oV_Mo_program.1 (100, .ifCond .eq 17) (ip_lk_mem rfl)) (by decide) (fun q => (k0 q)) (fun q => (k1 q))
set_option maxRecDepth 100000 in
theorem b_Mo_program_89 {l : Launch} {Gr : zG} {n w : Nat} {d : Nat} {S : zS} {Q : Option Value → zS → Prop}   (k0 : zW l Gr (zc n w) 168 M_Mo_program (d + 1) 251 [some (.ref 105), some (.int 0), none] [] S Q) : zW l Gr (zc n w) 168 M_Mo_program (d + 1) 89 [some (.ref 105), none, none] [] S Q := by
  refine z_go (Gr := Gr) (zc := zc n w) (K := 168) oV_Mo_program 3 (pc' := 251) (L' := [some (.ref 105), some (.int 0), none]) (st' := []) rfl ?_
  exact k0
set_option maxRecDepth 100000 in
theorem b_Mo_program_80 {l : Launch} {Gr : zG} {n w : Nat} {d : Nat} {S : zS} {Q : Option Value → zS → Prop} {R : zS → Prop} (hg : ip_gk (lg_tbl, vwCl, Gr))   (k0 : zMv l Gr (zc n w) 168 M_Mo_fail d [.ref 105, .int 1, .int (S.1 73 6)] S R) (k1 : ∀ S', R S' → zW l Gr (zc n w) 168 M_Mo_program (d + 1) 89 [some (.ref 105), none, none] [] S' Q) : zW l Gr (zc n w) 168 M_Mo_program (d + 1) 80 [some (.ref 105), none, none] [] S Q := by
  refine z_go (Gr := Gr) (zc := zc n w) (K := 168) oV_Mo_program 4 (pc' := 86) (L' := [some (.ref 105), none, none]) (st' := [.int (S.1 73 6), .int 1, .ref 105]) rfl ?_
  exact z_callV (Gr := Gr) hg.2.2.1 fT oM_Mo_fail (oV_Mo_program.1 (86, .invokevirtual 390) (ip_lk_mem rfl)) ⟨tt_9 _ (List.mem_of_getElem? (i := 45) rfl) rfl, tt_9 _ (List.mem_of_getElem? (i := 47) rfl) rfl, fS_Mo_fail⟩ (c := 73) (ci := 12) (As := [.int 1, .int (S.1 73 6)]) rfl rfl rfl (by decide) rfl (Nat.le_of_ble_eq_true rfl) k0 (fun v S' q => by obtain ⟨rfl, q⟩ := q; exact (k1 _ q))
set_option maxRecDepth 100000 in
theorem b_Mo_program_103 {l : Launch} {Gr : zG} {n w : Nat} {d : Nat} {S : zS} {Q : Option Value → zS → Prop} {x1 : Int32} {x2 : Int32}  (k0 : (S.1 73 26) ≤ 0 → zW l Gr (zc n w) 168 M_Mo_program (d + 1) 117 [some (.ref 105), some (.int x1), some (.int x2)] [] S Q) (k1 : ¬ (S.1 73 26) ≤ 0 → zW l Gr (zc n w) 168 M_Mo_program (d + 1) 110 [some (.ref 105), some (.int x1), none] [] S Q) : zW l Gr (zc n w) 168 M_Mo_program (d + 1) 103 [some (.ref 105), some (.int x1), some (.int x2)] [] S Q := by
  refine z_go (Gr := Gr) (zc := zc n w) (K := 168) oV_Mo_program 2 (pc' := 107) (L' := [some (.ref 105), some (.int x1), some (.int x2)]) (st' := [.int (S.1 73 26)]) rfl ?_
  exact z_ifle (Gr := Gr) (tgt := 117) (oV_Mo_program.1 (107, .ifCond .le 10) (ip_lk_mem rfl)) (by decide) (fun q => (k0 q)) (fun q => (z_forget (k1 q) (And.intro rfl (And.intro rfl trivial))))
set_option maxRecDepth 100000 in
theorem b_Mo_program_251 {l : Launch} {Gr : zG} {n w : Nat} {d : Nat} {S : zS} {Q : Option Value → zS → Prop} {x1 : Int32}  (k0 : zW l Gr (zc n w) 168 M_Mo_program (d + 1) 42 [some (.ref 105), some (.int x1), none] [] S Q) : zW l Gr (zc n w) 168 M_Mo_program (d + 1) 251 [some (.ref 105), some (.int x1), none] [] S Q := by
  refine z_go (Gr := Gr) (zc := zc n w) (K := 168) oV_Mo_program 1 (pc' := 42) (L' := [some (.ref 105), some (.int x1), none]) (st' := []) rfl ?_
  exact k0
set_option maxRecDepth 100000 in
theorem b_Mo_program_110 {l : Launch} {Gr : zG} {n w : Nat} {d : Nat} {S : zS} {Q : Option Value → zS → Prop} {R : zS → Prop} (hg : ip_gk (lg_tbl, vwCl, Gr)) {x1 : Int32}  (k0 : zMv l Gr (zc n w) 168 M_Mo_closeBlock d [.ref 105] S R) (k1 : ∀ S', R S' → zW l Gr (zc n w) 168 M_Mo_program (d + 1) 114 [some (.ref 105), some (.int x1), none] [] S' Q) : zW l Gr (zc n w) 168 M_Mo_program (d + 1) 110 [some (.ref 105), some (.int x1), none] [] S Q := by
  refine z_go (Gr := Gr) (zc := zc n w) (K := 168) oV_Mo_program 1 (pc' := 111) (L' := [some (.ref 105), some (.int x1), none]) (st' := [.ref 105]) rfl ?_
  exact z_callV (Gr := Gr) hg.2.2.1 fT oM_Mo_closeBlock (oV_Mo_program.1 (111, .invokevirtual 513) (ip_lk_mem rfl)) ⟨tt_9 _ (List.mem_of_getElem? (i := 57) rfl) rfl, tt_9 _ (List.mem_of_getElem? (i := 59) rfl) rfl, fS_Mo_closeBlock⟩ (c := 73) (ci := 12) (As := []) rfl rfl rfl (by decide) rfl (Nat.le_of_ble_eq_true rfl) k0 (fun v S' q => by obtain ⟨rfl, q⟩ := q; exact (k1 _ q))
set_option maxRecDepth 100000 in
theorem b_Mo_program_114 {l : Launch} {Gr : zG} {n w : Nat} {d : Nat} {S : zS} {Q : Option Value → zS → Prop} {x1 : Int32}  (k0 : zW l Gr (zc n w) 168 M_Mo_program (d + 1) 251 [some (.ref 105), some (.int x1), none] [] S Q) : zW l Gr (zc n w) 168 M_Mo_program (d + 1) 114 [some (.ref 105), some (.int x1), none] [] S Q := by
  refine z_go (Gr := Gr) (zc := zc n w) (K := 168) oV_Mo_program 1 (pc' := 251) (L' := [some (.ref 105), some (.int x1), none]) (st' := []) rfl ?_
  exact k0
theorem e_Mo_program {l : Launch} {Gr : zG} {n w : Nat} {d : Nat} {S : zS} {R : zS → Prop}  (k : zW l Gr (zc n w) 168 M_Mo_program (d + 1) 0 [some (.ref 105), none, none] [] S (fun v S' => v = none ∧ R S')) : zMv l Gr (zc n w) 168 M_Mo_program (d + 1) [.ref 105] S R := z_mv oM_Mo_program rfl (Nat.le_of_ble_eq_true rfl) k
set_option maxRecDepth 100000 in
theorem b_Mo_sorts_0 {l : Launch} {Gr : zG} {n w : Nat} {d : Nat} {S : zS} {Q : Option Value → zS → Prop}   (k0 : zW l Gr (zc n w) 168 M_Mo_sorts (d + 1) 37 [some (.ref 105), some (.int 0)] [] (zi (zi (zi (zi (zi (zi (zi S 73 34 0) 73 43 0) 73 49 0) 73 56 0) 73 60 0) 73 47 0) 73 59 0) Q) : zW l Gr (zc n w) 168 M_Mo_sorts (d + 1) 0 [some (.ref 105), none] [] S Q := by
  refine z_go (Gr := Gr) (zc := zc n w) (K := 168) oV_Mo_sorts 2 (pc' := 2) (L' := [some (.ref 105), none]) (st' := [.int 0, .ref 105]) rfl ?_
  refine z_putI (Gr := Gr) (c := 73) (oV_Mo_sorts.1 (2, .putfield 534) (ip_lk_mem rfl)) (oV_Mo_sorts.2.1 (534, 12, 34, .int, false) (ip_lk_mem rfl)).1 (by decide) (zo_73 _ _ _ _) (zs_73_34 _ _ _ _ _) (zn_73_34 _ _ _ _) rfl ?_
  refine z_go (Gr := Gr) (zc := zc n w) (K := 168) oV_Mo_sorts 2 (pc' := 7) (L' := [some (.ref 105), none]) (st' := [.int 0, .ref 105]) rfl ?_
  refine z_putI (Gr := Gr) (c := 73) (oV_Mo_sorts.1 (7, .putfield 540) (ip_lk_mem rfl)) (oV_Mo_sorts.2.1 (540, 12, 43, .int, false) (ip_lk_mem rfl)).1 (by decide) (zo_73 _ _ _ _) (zs_73_43 _ _ _ _ _) (zn_73_43 _ _ _ _) rfl ?_
  refine z_go (Gr := Gr) (zc := zc n w) (K := 168) oV_Mo_sorts 2 (pc' := 12) (L' := [some (.ref 105), none]) (st' := [.int 0, .ref 105]) rfl ?_
  refine z_putI (Gr := Gr) (c := 73) (oV_Mo_sorts.1 (12, .putfield 546) (ip_lk_mem rfl)) (oV_Mo_sorts.2.1 (546, 12, 49, .int, false) (ip_lk_mem rfl)).1 (by decide) (zo_73 _ _ _ _) (zs_73_49 _ _ _ _ _) (zn_73_49 _ _ _ _) rfl ?_
  refine z_go (Gr := Gr) (zc := zc n w) (K := 168) oV_Mo_sorts 2 (pc' := 17) (L' := [some (.ref 105), none]) (st' := [.int 0, .ref 105]) rfl ?_
  refine z_putI (Gr := Gr) (c := 73) (oV_Mo_sorts.1 (17, .putfield 549) (ip_lk_mem rfl)) (oV_Mo_sorts.2.1 (549, 12, 56, .int, false) (ip_lk_mem rfl)).1 (by decide) (zo_73 _ _ _ _) (zs_73_56 _ _ _ _ _) (zn_73_56 _ _ _ _) rfl ?_
  refine z_go (Gr := Gr) (zc := zc n w) (K := 168) oV_Mo_sorts 2 (pc' := 22) (L' := [some (.ref 105), none]) (st' := [.int 0, .ref 105]) rfl ?_
  refine z_putI (Gr := Gr) (c := 73) (oV_Mo_sorts.1 (22, .putfield 552) (ip_lk_mem rfl)) (oV_Mo_sorts.2.1 (552, 12, 60, .int, false) (ip_lk_mem rfl)).1 (by decide) (zo_73 _ _ _ _) (zs_73_60 _ _ _ _ _) (zn_73_60 _ _ _ _) rfl ?_
  refine z_go (Gr := Gr) (zc := zc n w) (K := 168) oV_Mo_sorts 2 (pc' := 27) (L' := [some (.ref 105), none]) (st' := [.int 0, .ref 105]) rfl ?_
  refine z_putI (Gr := Gr) (c := 73) (oV_Mo_sorts.1 (27, .putfield 537) (ip_lk_mem rfl)) (oV_Mo_sorts.2.1 (537, 12, 47, .boolean, false) (ip_lk_mem rfl)).1 (by decide) (zo_73 _ _ _ _) (zs_73_47 _ _ _ _ _) (zn_73_47 _ _ _ _) (by decide) ?_
  refine z_go (Gr := Gr) (zc := zc n w) (K := 168) oV_Mo_sorts 2 (pc' := 32) (L' := [some (.ref 105), none]) (st' := [.int 0, .ref 105]) rfl ?_
  refine z_putI (Gr := Gr) (c := 73) (oV_Mo_sorts.1 (32, .putfield 555) (ip_lk_mem rfl)) (oV_Mo_sorts.2.1 (555, 12, 59, .int, false) (ip_lk_mem rfl)).1 (by decide) (zo_73 _ _ _ _) (zs_73_59 _ _ _ _ _) (zn_73_59 _ _ _ _) rfl ?_
  refine z_go (Gr := Gr) (zc := zc n w) (K := 168) oV_Mo_sorts 2 (pc' := 37) (L' := [some (.ref 105), some (.int 0)]) (st' := []) rfl ?_
  exact k0
set_option maxRecDepth 100000 in
theorem b_Mo_sorts_37 {l : Launch} {Gr : zG} {n w : Nat} {d : Nat} {S : zS} {Q : Option Value → zS → Prop} {x1 : Int32}  (k0 : (S.1 73 13) ≤ x1 → zW l Gr (zc n w) 168 M_Mo_sorts (d + 1) 82 [none, none] [] S Q) (k1 : ¬ (S.1 73 13) ≤ x1 → zW l Gr (zc n w) 168 M_Mo_sorts (d + 1) 45 [some (.ref 105), some (.int x1)] [] S Q) : zW l Gr (zc n w) 168 M_Mo_sorts (d + 1) 37 [some (.ref 105), some (.int x1)] [] S Q := by
  refine z_go (Gr := Gr) (zc := zc n w) (K := 168) oV_Mo_sorts 3 (pc' := 42) (L' := [some (.ref 105), some (.int x1)]) (st' := [.int (S.1 73 13), .int x1]) rfl ?_
  exact z_icge (Gr := Gr) (tgt := 82) (oV_Mo_sorts.1 (42, .if_icmp .ge 40) (ip_lk_mem rfl)) (by decide) (fun q => (z_forget (k0 q) trivial)) (fun q => (k1 q))
set_option maxRecDepth 100000 in
theorem b_Mo_sorts_82 {l : Launch} {Gr : zG} {n w : Nat} {d : Nat} {S : zS} {Q : Option Value → zS → Prop}   (k0 : Q none S) : zW l Gr (zc n w) 168 M_Mo_sorts (d + 1) 82 [none, none] [] S Q := by
  exact z_ret (v := none) (oV_Mo_sorts.1 (82, .return_) (ip_lk_mem rfl)) k0
set_option maxRecDepth 100000 in
theorem b_Mo_sorts_45 {l : Launch} {Gr : zG} {n w : Nat} {d : Nat} {S : zS} {Q : Option Value → zS → Prop} {x1 : Int32}  (k0 : ¬ (S.1 73 7) = 0 → zW l Gr (zc n w) 168 M_Mo_sorts (d + 1) 82 [none, none] [] S Q) (k1 : (S.1 73 7) = 0 → zW l Gr (zc n w) 168 M_Mo_sorts (d + 1) 52 [some (.ref 105), some (.int x1)] [] S Q) : zW l Gr (zc n w) 168 M_Mo_sorts (d + 1) 45 [some (.ref 105), some (.int x1)] [] S Q := by
  refine z_go (Gr := Gr) (zc := zc n w) (K := 168) oV_Mo_sorts 2 (pc' := 49) (L' := [some (.ref 105), some (.int x1)]) (st' := [.int (S.1 73 7)]) rfl ?_
  exact z_ifne (Gr := Gr) (tgt := 82) (oV_Mo_sorts.1 (49, .ifCond .ne 33) (ip_lk_mem rfl)) (by decide) (fun q => (z_forget (k0 q) trivial)) (fun q => (k1 q))
set_option maxRecDepth 100000 in
theorem b_Mo_sorts_52 {l : Launch} {Gr : zG} {n w : Nat} {d : Nat} {S : zS} {Q : Option Value → zS → Prop} {x1 : Int32} (g0 : vp_in x1 12000) (k0 : 20 ≤ (S.1 78 ((x1 : Int32).toNatClampNeg)) → zW l Gr (zc n w) 168 M_Mo_sorts (d + 1) 71 [some (.ref 105), some (.int x1)] [] S Q) (k1 : ¬ 20 ≤ (S.1 78 ((x1 : Int32).toNatClampNeg)) → zW l Gr (zc n w) 168 M_Mo_sorts (d + 1) 63 [some (.ref 105), some (.int x1)] [] S Q) : zW l Gr (zc n w) 168 M_Mo_sorts (d + 1) 52 [some (.ref 105), some (.int x1)] [] S Q := by
  refine z_go (Gr := Gr) (zc := zc n w) (K := 168) oV_Mo_sorts 3 (pc' := 57) (L' := [some (.ref 105), some (.int x1)]) (st' := [.int x1, .ref 110]) rfl ?_
  refine z_iald (Gr := Gr) (c := 78) (oV_Mo_sorts.1 (57, .iaload) (ip_lk_mem rfl)) (by decide) rfl g0 ?_
  refine z_go (Gr := Gr) (zc := zc n w) (K := 168) oV_Mo_sorts 1 (pc' := 60) (L' := [some (.ref 105), some (.int x1)]) (st' := [.int 20, .int (S.1 78 ((x1 : Int32).toNatClampNeg))]) rfl ?_
  exact z_icge (Gr := Gr) (tgt := 71) (oV_Mo_sorts.1 (60, .if_icmp .ge 11) (ip_lk_mem rfl)) (by decide) (fun q => (k0 q)) (fun q => (k1 q))
set_option maxRecDepth 100000 in
theorem b_Mo_sorts_71 {l : Launch} {Gr : zG} {n w : Nat} {d : Nat} {S : zS} {Q : Option Value → zS → Prop} {R : zS → Prop} (hg : ip_gk (lg_tbl, vwCl, Gr)) {x1 : Int32}  (k0 : zMv l Gr (zc n w) 168 M_Mo_statementSort d [.ref 105, .int x1] S R) (k1 : ∀ S', R S' → zW l Gr (zc n w) 168 M_Mo_sorts (d + 1) 76 [some (.ref 105), some (.int x1)] [] S' Q) : zW l Gr (zc n w) 168 M_Mo_sorts (d + 1) 71 [some (.ref 105), some (.int x1)] [] S Q := by
  refine z_go (Gr := Gr) (zc := zc n w) (K := 168) oV_Mo_sorts 2 (pc' := 73) (L' := [some (.ref 105), some (.int x1)]) (st' := [.int x1, .ref 105]) rfl ?_
  exact z_callV (Gr := Gr) hg.2.2.1 fT oM_Mo_statementSort (oV_Mo_sorts.1 (73, .invokevirtual 561) (ip_lk_mem rfl)) ⟨tt_10 _ (List.mem_of_getElem? (i := 15) rfl) rfl, tt_10 _ (List.mem_of_getElem? (i := 17) rfl) rfl, fS_Mo_statementSort⟩ (c := 73) (ci := 12) (As := [.int x1]) rfl rfl rfl (by decide) rfl (Nat.le_of_ble_eq_true rfl) k0 (fun v S' q => by obtain ⟨rfl, q⟩ := q; exact (k1 _ q))
set_option maxRecDepth 100000 in
theorem b_Mo_sorts_63 {l : Launch} {Gr : zG} {n w : Nat} {d : Nat} {S : zS} {Q : Option Value → zS → Prop} {R : zS → Prop} (hg : ip_gk (lg_tbl, vwCl, Gr)) {x1 : Int32}  (k0 : zMv l Gr (zc n w) 168 M_Mo_operandSort d [.ref 105, .int x1] S R) (k1 : ∀ S', R S' → zW l Gr (zc n w) 168 M_Mo_sorts (d + 1) 68 [some (.ref 105), some (.int x1)] [] S' Q) : zW l Gr (zc n w) 168 M_Mo_sorts (d + 1) 63 [some (.ref 105), some (.int x1)] [] S Q := by
  refine z_go (Gr := Gr) (zc := zc n w) (K := 168) oV_Mo_sorts 2 (pc' := 65) (L' := [some (.ref 105), some (.int x1)]) (st' := [.int x1, .ref 105]) rfl ?_
  exact z_callV (Gr := Gr) hg.2.2.1 fT oM_Mo_operandSort (oV_Mo_sorts.1 (65, .invokevirtual 558) (ip_lk_mem rfl)) ⟨tt_9 _ (List.mem_of_getElem? (i := 211) rfl) rfl, tt_9 _ (List.mem_of_getElem? (i := 213) rfl) rfl, fS_Mo_operandSort⟩ (c := 73) (ci := 12) (As := [.int x1]) rfl rfl rfl (by decide) rfl (Nat.le_of_ble_eq_true rfl) k0 (fun v S' q => by obtain ⟨rfl, q⟩ := q; exact (k1 _ q))
set_option maxRecDepth 100000 in
theorem b_Mo_sorts_76 {l : Launch} {Gr : zG} {n w : Nat} {d : Nat} {S : zS} {Q : Option Value → zS → Prop} {x1 : Int32}  (k0 : zW l Gr (zc n w) 168 M_Mo_sorts (d + 1) 37 [some (.ref 105), some (.int (x1 + Int32.ofInt 1))] [] S Q) : zW l Gr (zc n w) 168 M_Mo_sorts (d + 1) 76 [some (.ref 105), some (.int x1)] [] S Q := by
  refine z_go (Gr := Gr) (zc := zc n w) (K := 168) oV_Mo_sorts 2 (pc' := 37) (L' := [some (.ref 105), some (.int (x1 + Int32.ofInt 1))]) (st' := []) rfl ?_
  exact k0
set_option maxRecDepth 100000 in
theorem b_Mo_sorts_68 {l : Launch} {Gr : zG} {n w : Nat} {d : Nat} {S : zS} {Q : Option Value → zS → Prop} {x1 : Int32}  (k0 : zW l Gr (zc n w) 168 M_Mo_sorts (d + 1) 76 [some (.ref 105), some (.int x1)] [] S Q) : zW l Gr (zc n w) 168 M_Mo_sorts (d + 1) 68 [some (.ref 105), some (.int x1)] [] S Q := by
  refine z_go (Gr := Gr) (zc := zc n w) (K := 168) oV_Mo_sorts 1 (pc' := 76) (L' := [some (.ref 105), some (.int x1)]) (st' := []) rfl ?_
  exact k0
theorem e_Mo_sorts {l : Launch} {Gr : zG} {n w : Nat} {d : Nat} {S : zS} {R : zS → Prop}  (k : zW l Gr (zc n w) 168 M_Mo_sorts (d + 1) 0 [some (.ref 105), none] [] S (fun v S' => v = none ∧ R S')) : zMv l Gr (zc n w) 168 M_Mo_sorts (d + 1) [.ref 105] S R := z_mv oM_Mo_sorts rfl (Nat.le_of_ble_eq_true rfl) k
set_option maxRecDepth 100000 in
theorem b_Mo_inputsOfAll_0 {l : Launch} {Gr : zG} {n w : Nat} {d : Nat} {S : zS} {Q : Option Value → zS → Prop}   (k0 : zW l Gr (zc n w) 168 M_Mo_inputsOfAll (d + 1) 12 [some (.ref 105), some (.int 0), none, none] [] (zi (zi S 73 75 0) 73 65 0) Q) : zW l Gr (zc n w) 168 M_Mo_inputsOfAll (d + 1) 0 [some (.ref 105), none, none, none] [] S Q := by
  refine z_go (Gr := Gr) (zc := zc n w) (K := 168) oV_Mo_inputsOfAll 2 (pc' := 2) (L' := [some (.ref 105), none, none, none]) (st' := [.int 0, .ref 105]) rfl ?_
  refine z_putI (Gr := Gr) (c := 73) (oV_Mo_inputsOfAll.1 (2, .putfield 663) (ip_lk_mem rfl)) (oV_Mo_inputsOfAll.2.1 (663, 12, 75, .int, false) (ip_lk_mem rfl)).1 (by decide) (zo_73 _ _ _ _) (zs_73_75 _ _ _ _ _) (zn_73_75 _ _ _ _) rfl ?_
  refine z_go (Gr := Gr) (zc := zc n w) (K := 168) oV_Mo_inputsOfAll 2 (pc' := 7) (L' := [some (.ref 105), none, none, none]) (st' := [.int 0, .ref 105]) rfl ?_
  refine z_putI (Gr := Gr) (c := 73) (oV_Mo_inputsOfAll.1 (7, .putfield 618) (ip_lk_mem rfl)) (oV_Mo_inputsOfAll.2.1 (618, 12, 65, .int, false) (ip_lk_mem rfl)).1 (by decide) (zo_73 _ _ _ _) (zs_73_65 _ _ _ _ _) (zn_73_65 _ _ _ _) rfl ?_
  refine z_go (Gr := Gr) (zc := zc n w) (K := 168) oV_Mo_inputsOfAll 2 (pc' := 12) (L' := [some (.ref 105), some (.int 0), none, none]) (st' := []) rfl ?_
  exact k0
set_option maxRecDepth 100000 in
theorem b_Mo_inputsOfAll_12 {l : Launch} {Gr : zG} {n w : Nat} {d : Nat} {S : zS} {Q : Option Value → zS → Prop} {x1 : Int32}  (k0 : (S.1 73 13) ≤ x1 → zW l Gr (zc n w) 168 M_Mo_inputsOfAll (d + 1) 159 [none, none, none, none] [] S Q) (k1 : ¬ (S.1 73 13) ≤ x1 → zW l Gr (zc n w) 168 M_Mo_inputsOfAll (d + 1) 20 [some (.ref 105), some (.int x1), none, none] [] S Q) : zW l Gr (zc n w) 168 M_Mo_inputsOfAll (d + 1) 12 [some (.ref 105), some (.int x1), none, none] [] S Q := by
  refine z_go (Gr := Gr) (zc := zc n w) (K := 168) oV_Mo_inputsOfAll 3 (pc' := 17) (L' := [some (.ref 105), some (.int x1), none, none]) (st' := [.int (S.1 73 13), .int x1]) rfl ?_
  exact z_icge (Gr := Gr) (tgt := 159) (oV_Mo_inputsOfAll.1 (17, .if_icmp .ge 142) (ip_lk_mem rfl)) (by decide) (fun q => (z_forget (k0 q) trivial)) (fun q => (k1 q))
set_option maxRecDepth 100000 in
theorem b_Mo_inputsOfAll_159 {l : Launch} {Gr : zG} {n w : Nat} {d : Nat} {S : zS} {Q : Option Value → zS → Prop}   (k0 : Q none S) : zW l Gr (zc n w) 168 M_Mo_inputsOfAll (d + 1) 159 [none, none, none, none] [] S Q := by
  exact z_ret (v := none) (oV_Mo_inputsOfAll.1 (159, .return_) (ip_lk_mem rfl)) k0
set_option maxRecDepth 100000 in
theorem b_Mo_inputsOfAll_20 {l : Launch} {Gr : zG} {n w : Nat} {d : Nat} {S : zS} {Q : Option Value → zS → Prop} {x1 : Int32} (g0 : vp_in x1 12000) (k0 : ¬ (S.1 78 ((x1 : Int32).toNatClampNeg)) = 23 → zW l Gr (zc n w) 168 M_Mo_inputsOfAll (d + 1) 153 [some (.ref 105), some (.int x1), none, none] [] S Q) (k1 : (S.1 78 ((x1 : Int32).toNatClampNeg)) = 23 → zW l Gr (zc n w) 168 M_Mo_inputsOfAll (d + 1) 31 [some (.ref 105), some (.int x1), none, none] [] S Q) : zW l Gr (zc n w) 168 M_Mo_inputsOfAll (d + 1) 20 [some (.ref 105), some (.int x1), none, none] [] S Q := by
  refine z_go (Gr := Gr) (zc := zc n w) (K := 168) oV_Mo_inputsOfAll 3 (pc' := 25) (L' := [some (.ref 105), some (.int x1), none, none]) (st' := [.int x1, .ref 110]) rfl ?_
  refine z_iald (Gr := Gr) (c := 78) (oV_Mo_inputsOfAll.1 (25, .iaload) (ip_lk_mem rfl)) (by decide) rfl g0 ?_
  refine z_go (Gr := Gr) (zc := zc n w) (K := 168) oV_Mo_inputsOfAll 1 (pc' := 28) (L' := [some (.ref 105), some (.int x1), none, none]) (st' := [.int 23, .int (S.1 78 ((x1 : Int32).toNatClampNeg))]) rfl ?_
  exact z_icne (Gr := Gr) (tgt := 153) (oV_Mo_inputsOfAll.1 (28, .if_icmp .ne 125) (ip_lk_mem rfl)) (by decide) (fun q => (k0 q)) (fun q => (k1 q))
set_option maxRecDepth 100000 in
theorem b_Mo_inputsOfAll_153 {l : Launch} {Gr : zG} {n w : Nat} {d : Nat} {S : zS} {Q : Option Value → zS → Prop} {x1 : Int32}  (k0 : zW l Gr (zc n w) 168 M_Mo_inputsOfAll (d + 1) 12 [some (.ref 105), some (.int (x1 + Int32.ofInt 1)), none, none] [] S Q) : zW l Gr (zc n w) 168 M_Mo_inputsOfAll (d + 1) 153 [some (.ref 105), some (.int x1), none, none] [] S Q := by
  refine z_go (Gr := Gr) (zc := zc n w) (K := 168) oV_Mo_inputsOfAll 2 (pc' := 12) (L' := [some (.ref 105), some (.int (x1 + Int32.ofInt 1)), none, none]) (st' := []) rfl ?_
  exact k0
set_option maxRecDepth 100000 in
theorem b_Mo_inputsOfAll_31 {l : Launch} {Gr : zG} {n w : Nat} {d : Nat} {S : zS} {Q : Option Value → zS → Prop} {x1 : Int32} (g0 : vp_in x1 12000) (k0 : zW l Gr (zc n w) 168 M_Mo_inputsOfAll (d + 1) 45 [some (.ref 105), some (.int x1), some (.int (((S.2 82 ((x1 : Int32).toNatClampNeg)) &&& 255)).toInt32), some (.int 0)] [] S Q) : zW l Gr (zc n w) 168 M_Mo_inputsOfAll (d + 1) 31 [some (.ref 105), some (.int x1), none, none] [] S Q := by
  refine z_go (Gr := Gr) (zc := zc n w) (K := 168) oV_Mo_inputsOfAll 3 (pc' := 36) (L' := [some (.ref 105), some (.int x1), none, none]) (st' := [.int x1, .ref 114]) rfl ?_
  refine z_lald (Gr := Gr) (c := 82) (oV_Mo_inputsOfAll.1 (36, .laload) (ip_lk_mem rfl)) (by decide) rfl g0 ?_
  refine z_go (Gr := Gr) (zc := zc n w) (K := 168) oV_Mo_inputsOfAll 6 (pc' := 45) (L' := [some (.ref 105), some (.int x1), some (.int (((S.2 82 ((x1 : Int32).toNatClampNeg)) &&& 255)).toInt32), some (.int 0)]) (st' := []) rfl ?_
  exact k0
set_option maxRecDepth 100000 in
theorem b_Mo_inputsOfAll_45 {l : Launch} {Gr : zG} {n w : Nat} {d : Nat} {S : zS} {Q : Option Value → zS → Prop} {x1 : Int32} {x2 : Int32} {x3 : Int32}  (k0 : ¬ x2 = 0 → zW l Gr (zc n w) 168 M_Mo_inputsOfAll (d + 1) 54 [some (.ref 105), some (.int x1), some (.int x2), some (.int x3)] [.int x3] S Q) (k1 : x2 = 0 → zW l Gr (zc n w) 168 M_Mo_inputsOfAll (d + 1) 50 [some (.ref 105), some (.int x1), some (.int x2), some (.int x3)] [.int x3] S Q) : zW l Gr (zc n w) 168 M_Mo_inputsOfAll (d + 1) 45 [some (.ref 105), some (.int x1), some (.int x2), some (.int x3)] [] S Q := by
  refine z_go (Gr := Gr) (zc := zc n w) (K := 168) oV_Mo_inputsOfAll 2 (pc' := 47) (L' := [some (.ref 105), some (.int x1), some (.int x2), some (.int x3)]) (st' := [.int x2, .int x3]) rfl ?_
  exact z_ifne (Gr := Gr) (tgt := 54) (oV_Mo_inputsOfAll.1 (47, .ifCond .ne 7) (ip_lk_mem rfl)) (by decide) (fun q => (k0 q)) (fun q => (k1 q))
set_option maxRecDepth 100000 in
theorem b_Mo_inputsOfAll_54 {l : Launch} {Gr : zG} {n w : Nat} {d : Nat} {S : zS} {Q : Option Value → zS → Prop} {x1 : Int32} {x2 : Int32} {x3 : Int32} {s0 : Int32}  (k0 : zW l Gr (zc n w) 168 M_Mo_inputsOfAll (d + 1) 55 [some (.ref 105), some (.int x1), some (.int x2), some (.int x3)] [.int x2, .int s0] S Q) : zW l Gr (zc n w) 168 M_Mo_inputsOfAll (d + 1) 54 [some (.ref 105), some (.int x1), some (.int x2), some (.int x3)] [.int s0] S Q := by
  refine z_go (Gr := Gr) (zc := zc n w) (K := 168) oV_Mo_inputsOfAll 1 (pc' := 55) (L' := [some (.ref 105), some (.int x1), some (.int x2), some (.int x3)]) (st' := [.int x2, .int s0]) rfl ?_
  exact k0
set_option maxRecDepth 100000 in
theorem b_Mo_inputsOfAll_50 {l : Launch} {Gr : zG} {n w : Nat} {d : Nat} {S : zS} {Q : Option Value → zS → Prop} {x1 : Int32} {x2 : Int32} {x3 : Int32} {s0 : Int32}  (k0 : zW l Gr (zc n w) 168 M_Mo_inputsOfAll (d + 1) 55 [some (.ref 105), some (.int x1), some (.int x2), some (.int x3)] [.int 1, .int s0] S Q) : zW l Gr (zc n w) 168 M_Mo_inputsOfAll (d + 1) 50 [some (.ref 105), some (.int x1), some (.int x2), some (.int x3)] [.int s0] S Q := by
  refine z_go (Gr := Gr) (zc := zc n w) (K := 168) oV_Mo_inputsOfAll 2 (pc' := 55) (L' := [some (.ref 105), some (.int x1), some (.int x2), some (.int x3)]) (st' := [.int 1, .int s0]) rfl ?_
  exact k0
set_option maxRecDepth 100000 in
theorem b_Mo_inputsOfAll_55 {l : Launch} {Gr : zG} {n w : Nat} {d : Nat} {S : zS} {Q : Option Value → zS → Prop} {x1 : Int32} {x2 : Int32} {x3 : Int32} {s0 : Int32} {s1 : Int32}  (k0 : s0 ≤ s1 → zW l Gr (zc n w) 168 M_Mo_inputsOfAll (d + 1) 153 [some (.ref 105), some (.int x1), none, none] [] S Q) (k1 : ¬ s0 ≤ s1 → zW l Gr (zc n w) 168 M_Mo_inputsOfAll (d + 1) 58 [some (.ref 105), some (.int x1), some (.int x2), some (.int x3)] [] S Q) : zW l Gr (zc n w) 168 M_Mo_inputsOfAll (d + 1) 55 [some (.ref 105), some (.int x1), some (.int x2), some (.int x3)] [.int s0, .int s1] S Q := by
  exact z_icge (Gr := Gr) (tgt := 153) (oV_Mo_inputsOfAll.1 (55, .if_icmp .ge 98) (ip_lk_mem rfl)) (by decide) (fun q => (z_forget (k0 q) (And.intro rfl (And.intro rfl trivial)))) (fun q => (k1 q))
set_option maxRecDepth 100000 in
theorem b_Mo_inputsOfAll_58 {l : Launch} {Gr : zG} {n w : Nat} {d : Nat} {S : zS} {Q : Option Value → zS → Prop} {R : Int32 → zS → Prop} (hg : ip_gk (lg_tbl, vwCl, Gr)) {x1 : Int32} {x2 : Int32} {x3 : Int32} (g0 : vp_in x1 12000) (g1 : vp_in (S.1 73 75) 256) (k0 : zMi l Gr (zc n w) 168 M_Mo_widthOf d [.ref 105, .int (S.1 80 ((x1 : Int32).toNatClampNeg))] (zi S 115 (((S.1 73 75) : Int32).toNatClampNeg) (((S.2 82 ((x1 : Int32).toNatClampNeg)) >>> ((8 : Int32).toInt64 &&& 63))).toInt32) R) (k1 : ∀ v S', R v S' → zW l Gr (zc n w) 168 M_Mo_inputsOfAll (d + 1) 95 [some (.ref 105), some (.int x1), some (.int x2), some (.int x3)] [.int v, .int (S.1 73 75), .ref 148] S' Q) : zW l Gr (zc n w) 168 M_Mo_inputsOfAll (d + 1) 58 [some (.ref 105), some (.int x1), some (.int x2), some (.int x3)] [] S Q := by
  refine z_go (Gr := Gr) (zc := zc n w) (K := 168) oV_Mo_inputsOfAll 7 (pc' := 71) (L' := [some (.ref 105), some (.int x1), some (.int x2), some (.int x3)]) (st' := [.int x1, .ref 114, .int (S.1 73 75), .ref 147]) rfl ?_
  refine z_lald (Gr := Gr) (c := 82) (oV_Mo_inputsOfAll.1 (71, .laload) (ip_lk_mem rfl)) (by decide) rfl g0 ?_
  refine z_go (Gr := Gr) (zc := zc n w) (K := 168) oV_Mo_inputsOfAll 3 (pc' := 76) (L' := [some (.ref 105), some (.int x1), some (.int x2), some (.int x3)]) (st' := [.int (((S.2 82 ((x1 : Int32).toNatClampNeg)) >>> ((8 : Int32).toInt64 &&& 63))).toInt32, .int (S.1 73 75), .ref 147]) rfl ?_
  refine z_iast (Gr := Gr) (c := 115) (oV_Mo_inputsOfAll.1 (76, .iastore) (ip_lk_mem rfl)) (by decide) (fun _ => rfl) g1 ?_
  refine z_go (Gr := Gr) (zc := zc n w) (K := 168) oV_Mo_inputsOfAll 3 (pc' := 82) (L' := [some (.ref 105), some (.int x1), some (.int x2), some (.int x3)]) (st' := [.ref 105, .ref 148]) rfl ?_
  refine z_getI (Gr := Gr) (c := 73) (oV_Mo_inputsOfAll.1 (82, .getfield 663) (ip_lk_mem rfl)) (oV_Mo_inputsOfAll.2.1 (663, 12, 75, .int, false) (ip_lk_mem rfl)).1 (by decide) (zo_73 _ _ _ _) (zg_73_75 _ _ _ _) (zi_c (by decide)) ?_
  refine z_go (Gr := Gr) (zc := zc n w) (K := 168) oV_Mo_inputsOfAll 4 (pc' := 91) (L' := [some (.ref 105), some (.int x1), some (.int x2), some (.int x3)]) (st' := [.int x1, .ref 112, .ref 105, .int (S.1 73 75), .ref 148]) rfl ?_
  refine z_iald (Gr := Gr) (c := 80) (oV_Mo_inputsOfAll.1 (91, .iaload) (ip_lk_mem rfl)) (by decide) rfl g0 ?_
  refine z_topI (v := (S.1 80 ((x1 : Int32).toNatClampNeg))) (zi_c (by decide)) ?_
  exact z_callV (Gr := Gr) hg.2.2.1 fT oM_Mo_widthOf (oV_Mo_inputsOfAll.1 (92, .invokevirtual 666) (ip_lk_mem rfl)) ⟨tt_10 _ (List.mem_of_getElem? (i := 48) rfl) rfl, tt_10 _ (List.mem_of_getElem? (i := 50) rfl) rfl, fS_Mo_widthOf⟩ (c := 73) (ci := 12) (As := [.int (S.1 80 ((x1 : Int32).toNatClampNeg))]) rfl rfl rfl (by decide) rfl (Nat.le_of_ble_eq_true rfl) k0 (fun v S' q => by obtain ⟨x, rfl, q⟩ := q; exact (k1 _ _ q))
set_option maxRecDepth 100000 in
theorem b_Mo_inputsOfAll_95 {l : Launch} {Gr : zG} {n w : Nat} {d : Nat} {S : zS} {Q : Option Value → zS → Prop} {x1 : Int32} {x2 : Int32} {x3 : Int32} {s0 : Int32} {s1 : Int32} (g0 : vp_in s1 256) (g1 : vp_in (S.1 73 75) 256) (k0 : zW l Gr (zc n w) 168 M_Mo_inputsOfAll (d + 1) 45 [some (.ref 105), some (.int x1), some (.int x2), some (.int (x3 + Int32.ofInt 1))] [] (zi (zi (zj (zi (zi S 116 ((s1 : Int32).toNatClampNeg) s0) 117 (((S.1 73 75) : Int32).toNatClampNeg) (S.1 73 65)) 118 (((S.1 73 75) : Int32).toNatClampNeg) 0) 73 65 ((S.1 73 65) + ((zi S 116 ((s1 : Int32).toNatClampNeg) s0).1 116 (((S.1 73 75) : Int32).toNatClampNeg)))) 73 75 ((S.1 73 75) + 1)) Q) : zW l Gr (zc n w) 168 M_Mo_inputsOfAll (d + 1) 95 [some (.ref 105), some (.int x1), some (.int x2), some (.int x3)] [.int s0, .int s1, .ref 148] S Q := by
  refine z_iast (Gr := Gr) (c := 116) (oV_Mo_inputsOfAll.1 (95, .iastore) (ip_lk_mem rfl)) (by decide) (fun _ => rfl) g0 ?_
  refine z_go (Gr := Gr) (zc := zc n w) (K := 168) oV_Mo_inputsOfAll 3 (pc' := 101) (L' := [some (.ref 105), some (.int x1), some (.int x2), some (.int x3)]) (st' := [.ref 105, .ref 149]) rfl ?_
  refine z_getI (Gr := Gr) (c := 73) (oV_Mo_inputsOfAll.1 (101, .getfield 663) (ip_lk_mem rfl)) (oV_Mo_inputsOfAll.2.1 (663, 12, 75, .int, false) (ip_lk_mem rfl)).1 (by decide) (zo_73 _ _ _ _) (zg_73_75 _ _ _ _) (zi_c (by decide)) ?_
  refine z_go (Gr := Gr) (zc := zc n w) (K := 168) oV_Mo_inputsOfAll 1 (pc' := 105) (L' := [some (.ref 105), some (.int x1), some (.int x2), some (.int x3)]) (st' := [.ref 105, .int (S.1 73 75), .ref 149]) rfl ?_
  refine z_getI (Gr := Gr) (c := 73) (oV_Mo_inputsOfAll.1 (105, .getfield 618) (ip_lk_mem rfl)) (oV_Mo_inputsOfAll.2.1 (618, 12, 65, .int, false) (ip_lk_mem rfl)).1 (by decide) (zo_73 _ _ _ _) (zg_73_65 _ _ _ _) (zi_c (by decide)) ?_
  refine z_iast (Gr := Gr) (c := 117) (oV_Mo_inputsOfAll.1 (108, .iastore) (ip_lk_mem rfl)) (by decide) (fun _ => rfl) g1 ?_
  refine z_go (Gr := Gr) (zc := zc n w) (K := 168) oV_Mo_inputsOfAll 3 (pc' := 114) (L' := [some (.ref 105), some (.int x1), some (.int x2), some (.int x3)]) (st' := [.ref 105, .ref 150]) rfl ?_
  refine z_getI (Gr := Gr) (c := 73) (oV_Mo_inputsOfAll.1 (114, .getfield 663) (ip_lk_mem rfl)) (oV_Mo_inputsOfAll.2.1 (663, 12, 75, .int, false) (ip_lk_mem rfl)).1 (by decide) (zo_73 _ _ _ _) (zg_73_75 _ _ _ _) (Eq.trans (zi_c (by decide)) (zi_c (by decide))) ?_
  refine z_go (Gr := Gr) (zc := zc n w) (K := 168) oV_Mo_inputsOfAll 1 (pc' := 118) (L' := [some (.ref 105), some (.int x1), some (.int x2), some (.int x3)]) (st' := [.long 0, .int (S.1 73 75), .ref 150]) rfl ?_
  refine z_last (Gr := Gr) (c := 118) (oV_Mo_inputsOfAll.1 (118, .lastore) (ip_lk_mem rfl)) (by decide) (fun _ => rfl) g1 ?_
  refine z_go (Gr := Gr) (zc := zc n w) (K := 168) oV_Mo_inputsOfAll 2 (pc' := 121) (L' := [some (.ref 105), some (.int x1), some (.int x2), some (.int x3)]) (st' := [.ref 105, .ref 105]) rfl ?_
  refine z_getI (Gr := Gr) (c := 73) (oV_Mo_inputsOfAll.1 (121, .getfield 618) (ip_lk_mem rfl)) (oV_Mo_inputsOfAll.2.1 (618, 12, 65, .int, false) (ip_lk_mem rfl)).1 (by decide) (zo_73 _ _ _ _) (zg_73_65 _ _ _ _) (Eq.trans zj_1 (Eq.trans (zi_c (by decide)) (zi_c (by decide)))) ?_
  refine z_go (Gr := Gr) (zc := zc n w) (K := 168) oV_Mo_inputsOfAll 3 (pc' := 129) (L' := [some (.ref 105), some (.int x1), some (.int x2), some (.int x3)]) (st' := [.ref 105, .ref 148, .int (S.1 73 65), .ref 105]) rfl ?_
  refine z_getI (Gr := Gr) (c := 73) (oV_Mo_inputsOfAll.1 (129, .getfield 663) (ip_lk_mem rfl)) (oV_Mo_inputsOfAll.2.1 (663, 12, 75, .int, false) (ip_lk_mem rfl)).1 (by decide) (zo_73 _ _ _ _) (zg_73_75 _ _ _ _) (Eq.trans zj_1 (Eq.trans (zi_c (by decide)) (zi_c (by decide)))) ?_
  refine z_iald (Gr := Gr) (c := 116) (oV_Mo_inputsOfAll.1 (132, .iaload) (ip_lk_mem rfl)) (by decide) rfl g1 ?_
  refine z_topI (v := ((zi S 116 ((s1 : Int32).toNatClampNeg) s0).1 116 (((S.1 73 75) : Int32).toNatClampNeg))) (Eq.trans zj_1 (zi_c (by decide))) ?_
  refine z_go (Gr := Gr) (zc := zc n w) (K := 168) oV_Mo_inputsOfAll 1 (pc' := 134) (L' := [some (.ref 105), some (.int x1), some (.int x2), some (.int x3)]) (st' := [.int ((S.1 73 65) + ((zi S 116 ((s1 : Int32).toNatClampNeg) s0).1 116 (((S.1 73 75) : Int32).toNatClampNeg))), .ref 105]) rfl ?_
  refine z_putI (Gr := Gr) (c := 73) (oV_Mo_inputsOfAll.1 (134, .putfield 618) (ip_lk_mem rfl)) (oV_Mo_inputsOfAll.2.1 (618, 12, 65, .int, false) (ip_lk_mem rfl)).1 (by decide) (zo_73 _ _ _ _) (zs_73_65 _ _ _ _ _) (zn_73_65 _ _ _ _) rfl ?_
  refine z_go (Gr := Gr) (zc := zc n w) (K := 168) oV_Mo_inputsOfAll 2 (pc' := 139) (L' := [some (.ref 105), some (.int x1), some (.int x2), some (.int x3)]) (st' := [.ref 105, .ref 105]) rfl ?_
  refine z_getI (Gr := Gr) (c := 73) (oV_Mo_inputsOfAll.1 (139, .getfield 663) (ip_lk_mem rfl)) (oV_Mo_inputsOfAll.2.1 (663, 12, 75, .int, false) (ip_lk_mem rfl)).1 (by decide) (zo_73 _ _ _ _) (zg_73_75 _ _ _ _) (Eq.trans (zi_k (by decide)) (Eq.trans zj_1 (Eq.trans (zi_c (by decide)) (zi_c (by decide))))) ?_
  refine z_go (Gr := Gr) (zc := zc n w) (K := 168) oV_Mo_inputsOfAll 2 (pc' := 144) (L' := [some (.ref 105), some (.int x1), some (.int x2), some (.int x3)]) (st' := [.int ((S.1 73 75) + 1), .ref 105]) rfl ?_
  refine z_putI (Gr := Gr) (c := 73) (oV_Mo_inputsOfAll.1 (144, .putfield 663) (ip_lk_mem rfl)) (oV_Mo_inputsOfAll.2.1 (663, 12, 75, .int, false) (ip_lk_mem rfl)).1 (by decide) (zo_73 _ _ _ _) (zs_73_75 _ _ _ _ _) (zn_73_75 _ _ _ _) rfl ?_
  refine z_go (Gr := Gr) (zc := zc n w) (K := 168) oV_Mo_inputsOfAll 2 (pc' := 45) (L' := [some (.ref 105), some (.int x1), some (.int x2), some (.int (x3 + Int32.ofInt 1))]) (st' := []) rfl ?_
  exact k0
theorem e_Mo_inputsOfAll {l : Launch} {Gr : zG} {n w : Nat} {d : Nat} {S : zS} {R : zS → Prop}  (k : zW l Gr (zc n w) 168 M_Mo_inputsOfAll (d + 1) 0 [some (.ref 105), none, none, none] [] S (fun v S' => v = none ∧ R S')) : zMv l Gr (zc n w) 168 M_Mo_inputsOfAll (d + 1) [.ref 105] S R := z_mv oM_Mo_inputsOfAll rfl (Nat.le_of_ble_eq_true rfl) k
set_option maxRecDepth 100000 in
theorem b_Mo_build_0 {l : Launch} {Gr : zG} {n w : Nat} {d : Nat} {S : zS} {Q : Option Value → zS → Prop} {R : zS → Prop} (hg : ip_gk (lg_tbl, vwCl, Gr))   (k0 : zMv l Gr (zc n w) 168 M_Mo_inputsOfAll d [.ref 105] S R) (k1 : ∀ S', R S' → zW l Gr (zc n w) 168 M_Mo_build (d + 1) 4 [some (.ref 105), none] [] S' Q) : zW l Gr (zc n w) 168 M_Mo_build (d + 1) 0 [some (.ref 105), none] [] S Q := by
  refine z_go (Gr := Gr) (zc := zc n w) (K := 168) oV_Mo_build 1 (pc' := 1) (L' := [some (.ref 105), none]) (st' := [.ref 105]) rfl ?_
  exact z_callV (Gr := Gr) hg.2.2.1 fT oM_Mo_inputsOfAll (oV_Mo_build.1 (1, .invokevirtual 669) (ip_lk_mem rfl)) ⟨tt_10 _ (List.mem_of_getElem? (i := 44) rfl) rfl, tt_10 _ (List.mem_of_getElem? (i := 46) rfl) rfl, fS_Mo_inputsOfAll⟩ (c := 73) (ci := 12) (As := []) rfl rfl rfl (by decide) rfl (Nat.le_of_ble_eq_true rfl) k0 (fun v S' q => by obtain ⟨rfl, q⟩ := q; exact (k1 _ q))
set_option maxRecDepth 100000 in
theorem b_Mo_build_4 {l : Launch} {Gr : zG} {n w : Nat} {d : Nat} {S : zS} {Q : Option Value → zS → Prop}   (k0 : zW l Gr (zc n w) 168 M_Mo_build (d + 1) 56 [some (.ref 105), some (.int 0)] [] (zi (zi (zi (zi (zi (zi (zi (zi (zi (zi S 73 66 0) 73 67 0) 73 68 0) 73 69 0) 73 70 0) 73 94 0) 73 97 0) 73 101 0) 73 110 0) 73 85 0) Q) : zW l Gr (zc n w) 168 M_Mo_build (d + 1) 4 [some (.ref 105), none] [] S Q := by
  refine z_go (Gr := Gr) (zc := zc n w) (K := 168) oV_Mo_build 2 (pc' := 6) (L' := [some (.ref 105), none]) (st' := [.int 0, .ref 105]) rfl ?_
  refine z_putI (Gr := Gr) (c := 73) (oV_Mo_build.1 (6, .putfield 624) (ip_lk_mem rfl)) (oV_Mo_build.2.1 (624, 12, 66, .int, false) (ip_lk_mem rfl)).1 (by decide) (zo_73 _ _ _ _) (zs_73_66 _ _ _ _ _) (zn_73_66 _ _ _ _) rfl ?_
  refine z_go (Gr := Gr) (zc := zc n w) (K := 168) oV_Mo_build 2 (pc' := 11) (L' := [some (.ref 105), none]) (st' := [.int 0, .ref 105]) rfl ?_
  refine z_putI (Gr := Gr) (c := 73) (oV_Mo_build.1 (11, .putfield 630) (ip_lk_mem rfl)) (oV_Mo_build.2.1 (630, 12, 67, .int, false) (ip_lk_mem rfl)).1 (by decide) (zo_73 _ _ _ _) (zs_73_67 _ _ _ _ _) (zn_73_67 _ _ _ _) rfl ?_
  refine z_go (Gr := Gr) (zc := zc n w) (K := 168) oV_Mo_build 2 (pc' := 16) (L' := [some (.ref 105), none]) (st' := [.int 0, .ref 105]) rfl ?_
  refine z_putI (Gr := Gr) (c := 73) (oV_Mo_build.1 (16, .putfield 633) (ip_lk_mem rfl)) (oV_Mo_build.2.1 (633, 12, 68, .int, false) (ip_lk_mem rfl)).1 (by decide) (zo_73 _ _ _ _) (zs_73_68 _ _ _ _ _) (zn_73_68 _ _ _ _) rfl ?_
  refine z_go (Gr := Gr) (zc := zc n w) (K := 168) oV_Mo_build 2 (pc' := 21) (L' := [some (.ref 105), none]) (st' := [.int 0, .ref 105]) rfl ?_
  refine z_putI (Gr := Gr) (c := 73) (oV_Mo_build.1 (21, .putfield 672) (ip_lk_mem rfl)) (oV_Mo_build.2.1 (672, 12, 69, .int, false) (ip_lk_mem rfl)).1 (by decide) (zo_73 _ _ _ _) (zs_73_69 _ _ _ _ _) (zn_73_69 _ _ _ _) rfl ?_
  refine z_go (Gr := Gr) (zc := zc n w) (K := 168) oV_Mo_build 2 (pc' := 26) (L' := [some (.ref 105), none]) (st' := [.int 0, .ref 105]) rfl ?_
  refine z_putI (Gr := Gr) (c := 73) (oV_Mo_build.1 (26, .putfield 659) (ip_lk_mem rfl)) (oV_Mo_build.2.1 (659, 12, 70, .int, false) (ip_lk_mem rfl)).1 (by decide) (zo_73 _ _ _ _) (zs_73_70 _ _ _ _ _) (zn_73_70 _ _ _ _) rfl ?_
  refine z_go (Gr := Gr) (zc := zc n w) (K := 168) oV_Mo_build 2 (pc' := 31) (L' := [some (.ref 105), none]) (st' := [.int 0, .ref 105]) rfl ?_
  refine z_putI (Gr := Gr) (c := 73) (oV_Mo_build.1 (31, .putfield 621) (ip_lk_mem rfl)) (oV_Mo_build.2.1 (621, 12, 94, .int, false) (ip_lk_mem rfl)).1 (by decide) (zo_73 _ _ _ _) (zs_73_94 _ _ _ _ _) (zn_73_94 _ _ _ _) rfl ?_
  refine z_go (Gr := Gr) (zc := zc n w) (K := 168) oV_Mo_build 2 (pc' := 36) (L' := [some (.ref 105), none]) (st' := [.int 0, .ref 105]) rfl ?_
  refine z_putI (Gr := Gr) (c := 73) (oV_Mo_build.1 (36, .putfield 675) (ip_lk_mem rfl)) (oV_Mo_build.2.1 (675, 12, 97, .int, false) (ip_lk_mem rfl)).1 (by decide) (zo_73 _ _ _ _) (zs_73_97 _ _ _ _ _) (zn_73_97 _ _ _ _) rfl ?_
  refine z_go (Gr := Gr) (zc := zc n w) (K := 168) oV_Mo_build 2 (pc' := 41) (L' := [some (.ref 105), none]) (st' := [.int 0, .ref 105]) rfl ?_
  refine z_putI (Gr := Gr) (c := 73) (oV_Mo_build.1 (41, .putfield 678) (ip_lk_mem rfl)) (oV_Mo_build.2.1 (678, 12, 101, .int, false) (ip_lk_mem rfl)).1 (by decide) (zo_73 _ _ _ _) (zs_73_101 _ _ _ _ _) (zn_73_101 _ _ _ _) rfl ?_
  refine z_go (Gr := Gr) (zc := zc n w) (K := 168) oV_Mo_build 2 (pc' := 46) (L' := [some (.ref 105), none]) (st' := [.int 0, .ref 105]) rfl ?_
  refine z_putI (Gr := Gr) (c := 73) (oV_Mo_build.1 (46, .putfield 681) (ip_lk_mem rfl)) (oV_Mo_build.2.1 (681, 12, 110, .int, false) (ip_lk_mem rfl)).1 (by decide) (zo_73 _ _ _ _) (zs_73_110 _ _ _ _ _) (zn_73_110 _ _ _ _) rfl ?_
  refine z_go (Gr := Gr) (zc := zc n w) (K := 168) oV_Mo_build 2 (pc' := 51) (L' := [some (.ref 105), none]) (st' := [.int 0, .ref 105]) rfl ?_
  refine z_putI (Gr := Gr) (c := 73) (oV_Mo_build.1 (51, .putfield 649) (ip_lk_mem rfl)) (oV_Mo_build.2.1 (649, 12, 85, .int, false) (ip_lk_mem rfl)).1 (by decide) (zo_73 _ _ _ _) (zs_73_85 _ _ _ _ _) (zn_73_85 _ _ _ _) rfl ?_
  refine z_go (Gr := Gr) (zc := zc n w) (K := 168) oV_Mo_build 2 (pc' := 56) (L' := [some (.ref 105), some (.int 0)]) (st' := []) rfl ?_
  exact k0
set_option maxRecDepth 100000 in
theorem b_Mo_build_56 {l : Launch} {Gr : zG} {n w : Nat} {d : Nat} {S : zS} {Q : Option Value → zS → Prop} {x1 : Int32}  (k0 : (S.1 73 13) ≤ x1 → zW l Gr (zc n w) 168 M_Mo_build (d + 1) 99 [none, none] [] S Q) (k1 : ¬ (S.1 73 13) ≤ x1 → zW l Gr (zc n w) 168 M_Mo_build (d + 1) 64 [some (.ref 105), some (.int x1)] [] S Q) : zW l Gr (zc n w) 168 M_Mo_build (d + 1) 56 [some (.ref 105), some (.int x1)] [] S Q := by
  refine z_go (Gr := Gr) (zc := zc n w) (K := 168) oV_Mo_build 3 (pc' := 61) (L' := [some (.ref 105), some (.int x1)]) (st' := [.int (S.1 73 13), .int x1]) rfl ?_
  exact z_icge (Gr := Gr) (tgt := 99) (oV_Mo_build.1 (61, .if_icmp .ge 38) (ip_lk_mem rfl)) (by decide) (fun q => (z_forget (k0 q) trivial)) (fun q => (k1 q))
set_option maxRecDepth 100000 in
theorem b_Mo_build_99 {l : Launch} {Gr : zG} {n w : Nat} {d : Nat} {S : zS} {Q : Option Value → zS → Prop}   (k0 : Q none S) : zW l Gr (zc n w) 168 M_Mo_build (d + 1) 99 [none, none] [] S Q := by
  exact z_ret (v := none) (oV_Mo_build.1 (99, .return_) (ip_lk_mem rfl)) k0
set_option maxRecDepth 100000 in
theorem b_Mo_build_64 {l : Launch} {Gr : zG} {n w : Nat} {d : Nat} {S : zS} {Q : Option Value → zS → Prop} {x1 : Int32}  (k0 : ¬ (S.1 73 7) = 0 → zW l Gr (zc n w) 168 M_Mo_build (d + 1) 99 [none, none] [] S Q) (k1 : (S.1 73 7) = 0 → zW l Gr (zc n w) 168 M_Mo_build (d + 1) 71 [some (.ref 105), some (.int x1)] [] S Q) : zW l Gr (zc n w) 168 M_Mo_build (d + 1) 64 [some (.ref 105), some (.int x1)] [] S Q := by
  refine z_go (Gr := Gr) (zc := zc n w) (K := 168) oV_Mo_build 2 (pc' := 68) (L' := [some (.ref 105), some (.int x1)]) (st' := [.int (S.1 73 7)]) rfl ?_
  exact z_ifne (Gr := Gr) (tgt := 99) (oV_Mo_build.1 (68, .ifCond .ne 31) (ip_lk_mem rfl)) (by decide) (fun q => (z_forget (k0 q) trivial)) (fun q => (k1 q))
set_option maxRecDepth 100000 in
theorem b_Mo_build_71 {l : Launch} {Gr : zG} {n w : Nat} {d : Nat} {S : zS} {Q : Option Value → zS → Prop} {x1 : Int32} (g0 : vp_in x1 12000) (k0 : 20 ≤ (S.1 78 ((x1 : Int32).toNatClampNeg)) → zW l Gr (zc n w) 168 M_Mo_build (d + 1) 90 [some (.ref 105), some (.int x1)] [] S Q) (k1 : ¬ 20 ≤ (S.1 78 ((x1 : Int32).toNatClampNeg)) → zW l Gr (zc n w) 168 M_Mo_build (d + 1) 82 [some (.ref 105), some (.int x1)] [] S Q) : zW l Gr (zc n w) 168 M_Mo_build (d + 1) 71 [some (.ref 105), some (.int x1)] [] S Q := by
  refine z_go (Gr := Gr) (zc := zc n w) (K := 168) oV_Mo_build 3 (pc' := 76) (L' := [some (.ref 105), some (.int x1)]) (st' := [.int x1, .ref 110]) rfl ?_
  refine z_iald (Gr := Gr) (c := 78) (oV_Mo_build.1 (76, .iaload) (ip_lk_mem rfl)) (by decide) rfl g0 ?_
  refine z_go (Gr := Gr) (zc := zc n w) (K := 168) oV_Mo_build 1 (pc' := 79) (L' := [some (.ref 105), some (.int x1)]) (st' := [.int 20, .int (S.1 78 ((x1 : Int32).toNatClampNeg))]) rfl ?_
  exact z_icge (Gr := Gr) (tgt := 90) (oV_Mo_build.1 (79, .if_icmp .ge 11) (ip_lk_mem rfl)) (by decide) (fun q => (k0 q)) (fun q => (k1 q))
set_option maxRecDepth 100000 in
theorem b_Mo_build_90 {l : Launch} {Gr : zG} {n w : Nat} {d : Nat} {S : zS} {Q : Option Value → zS → Prop} {R : Int32 → zS → Prop} (hg : ip_gk (lg_tbl, vwCl, Gr)) {x1 : Int32}  (k0 : zMi l Gr (zc n w) 168 M_Mo_statement d [.ref 105, .int x1] S R) (k1 : ∀ v S', R v S' → zW l Gr (zc n w) 168 M_Mo_build (d + 1) 95 [some (.ref 105), none] [.int v] S' Q) : zW l Gr (zc n w) 168 M_Mo_build (d + 1) 90 [some (.ref 105), some (.int x1)] [] S Q := by
  refine z_go (Gr := Gr) (zc := zc n w) (K := 168) oV_Mo_build 2 (pc' := 92) (L' := [some (.ref 105), some (.int x1)]) (st' := [.int x1, .ref 105]) rfl ?_
  exact z_callV (Gr := Gr) hg.2.2.1 fT oM_Mo_statement (oV_Mo_build.1 (92, .invokevirtual 687) (ip_lk_mem rfl)) ⟨tt_10 _ (List.mem_of_getElem? (i := 157) rfl) rfl, tt_10 _ (List.mem_of_getElem? (i := 159) rfl) rfl, fS_Mo_statement⟩ (c := 73) (ci := 12) (As := [.int x1]) rfl rfl rfl (by decide) rfl (Nat.le_of_ble_eq_true rfl) k0 (fun v S' q => by obtain ⟨x, rfl, q⟩ := q; exact (z_forget (k1 _ _ q) (And.intro rfl trivial)))
set_option maxRecDepth 100000 in
theorem b_Mo_build_82 {l : Launch} {Gr : zG} {n w : Nat} {d : Nat} {S : zS} {Q : Option Value → zS → Prop} {R : Int32 → zS → Prop} (hg : ip_gk (lg_tbl, vwCl, Gr)) {x1 : Int32}  (k0 : zMi l Gr (zc n w) 168 M_Mo_operand d [.ref 105, .int x1] S R) (k1 : ∀ v S', R v S' → zW l Gr (zc n w) 168 M_Mo_build (d + 1) 87 [some (.ref 105), none] [.int v] S' Q) : zW l Gr (zc n w) 168 M_Mo_build (d + 1) 82 [some (.ref 105), some (.int x1)] [] S Q := by
  refine z_go (Gr := Gr) (zc := zc n w) (K := 168) oV_Mo_build 2 (pc' := 84) (L' := [some (.ref 105), some (.int x1)]) (st' := [.int x1, .ref 105]) rfl ?_
  exact z_callV (Gr := Gr) hg.2.2.1 fT oM_Mo_operand (oV_Mo_build.1 (84, .invokevirtual 684) (ip_lk_mem rfl)) ⟨tt_10 _ (List.mem_of_getElem? (i := 52) rfl) rfl, tt_10 _ (List.mem_of_getElem? (i := 54) rfl) rfl, fS_Mo_operand⟩ (c := 73) (ci := 12) (As := [.int x1]) rfl rfl rfl (by decide) rfl (Nat.le_of_ble_eq_true rfl) k0 (fun v S' q => by obtain ⟨x, rfl, q⟩ := q; exact (z_forget (k1 _ _ q) (And.intro rfl trivial)))
set_option maxRecDepth 100000 in
theorem b_Mo_build_95 {l : Launch} {Gr : zG} {n w : Nat} {d : Nat} {S : zS} {Q : Option Value → zS → Prop} {s0 : Int32}  (k0 : zW l Gr (zc n w) 168 M_Mo_build (d + 1) 56 [some (.ref 105), some (.int s0)] [] S Q) : zW l Gr (zc n w) 168 M_Mo_build (d + 1) 95 [some (.ref 105), none] [.int s0] S Q := by
  refine z_go (Gr := Gr) (zc := zc n w) (K := 168) oV_Mo_build 2 (pc' := 56) (L' := [some (.ref 105), some (.int s0)]) (st' := []) rfl ?_
  exact k0
set_option maxRecDepth 100000 in
theorem b_Mo_build_87 {l : Launch} {Gr : zG} {n w : Nat} {d : Nat} {S : zS} {Q : Option Value → zS → Prop} {s0 : Int32}  (k0 : zW l Gr (zc n w) 168 M_Mo_build (d + 1) 95 [some (.ref 105), none] [.int s0] S Q) : zW l Gr (zc n w) 168 M_Mo_build (d + 1) 87 [some (.ref 105), none] [.int s0] S Q := by
  refine z_go (Gr := Gr) (zc := zc n w) (K := 168) oV_Mo_build 1 (pc' := 95) (L' := [some (.ref 105), none]) (st' := [.int s0]) rfl ?_
  exact k0
theorem e_Mo_build {l : Launch} {Gr : zG} {n w : Nat} {d : Nat} {S : zS} {R : zS → Prop}  (k : zW l Gr (zc n w) 168 M_Mo_build (d + 1) 0 [some (.ref 105), none] [] S (fun v S' => v = none ∧ R S')) : zMv l Gr (zc n w) 168 M_Mo_build (d + 1) [.ref 105] S R := z_mv oM_Mo_build rfl (Nat.le_of_ble_eq_true rfl) k
set_option maxRecDepth 100000 in
theorem b_Mo_levels_0 {l : Launch} {Gr : zG} {n w : Nat} {d : Nat} {S : zS} {Q : Option Value → zS → Prop}   (k0 : zW l Gr (zc n w) 168 M_Mo_levels d 4 [some (.ref 105), some (.int 0), some (.int 1), none] [] S Q) : zW l Gr (zc n w) 168 M_Mo_levels d 0 [some (.ref 105), none, none, none] [] S Q := by
  refine z_go (Gr := Gr) (zc := zc n w) (K := 168) oV_Mo_levels 4 (pc' := 4) (L' := [some (.ref 105), some (.int 0), some (.int 1), none]) (st' := []) rfl ?_
  exact k0
set_option maxRecDepth 100000 in
theorem b_Mo_levels_4 {l : Launch} {Gr : zG} {n w : Nat} {d : Nat} {S : zS} {Q : Option Value → zS → Prop} {x1 : Int32} {x2 : Int32}  (k0 : (S.1 73 68) < x2 → zW l Gr (zc n w) 168 M_Mo_levels d 71 [some (.ref 105), some (.int x1), none, none] [] S Q) (k1 : ¬ (S.1 73 68) < x2 → zW l Gr (zc n w) 168 M_Mo_levels d 12 [some (.ref 105), some (.int x1), some (.int x2), none] [] S Q) : zW l Gr (zc n w) 168 M_Mo_levels d 4 [some (.ref 105), some (.int x1), some (.int x2), none] [] S Q := by
  refine z_go (Gr := Gr) (zc := zc n w) (K := 168) oV_Mo_levels 3 (pc' := 9) (L' := [some (.ref 105), some (.int x1), some (.int x2), none]) (st' := [.int (S.1 73 68), .int x2]) rfl ?_
  exact z_icgt (Gr := Gr) (tgt := 71) (oV_Mo_levels.1 (9, .if_icmp .gt 62) (ip_lk_mem rfl)) (by decide) (fun q => (z_forget (k0 q) (And.intro rfl (And.intro rfl trivial)))) (fun q => (k1 q))
set_option maxRecDepth 100000 in
theorem b_Mo_levels_71 {l : Launch} {Gr : zG} {n w : Nat} {d : Nat} {S : zS} {Q : Option Value → zS → Prop} {x1 : Int32} (g0 : vp_in ((S.1 73 68) + 1) 2003) (k0 : Q none (zi S 155 ((((S.1 73 68) + 1) : Int32).toNatClampNeg) x1)) : zW l Gr (zc n w) 168 M_Mo_levels d 71 [some (.ref 105), some (.int x1), none, none] [] S Q := by
  refine z_go (Gr := Gr) (zc := zc n w) (K := 168) oV_Mo_levels 7 (pc' := 82) (L' := [some (.ref 105), some (.int x1), none, none]) (st' := [.int x1, .int ((S.1 73 68) + 1), .ref 187]) rfl ?_
  refine z_iast (Gr := Gr) (c := 155) (oV_Mo_levels.1 (82, .iastore) (ip_lk_mem rfl)) (by decide) (fun _ => rfl) g0 ?_
  exact z_ret (v := none) (oV_Mo_levels.1 (83, .return_) (ip_lk_mem rfl)) k0
set_option maxRecDepth 100000 in
theorem b_Mo_levels_12 {l : Launch} {Gr : zG} {n w : Nat} {d : Nat} {S : zS} {Q : Option Value → zS → Prop} {x1 : Int32} {x2 : Int32} (g0 : vp_in x2 2003) (k0 : zW l Gr (zc n w) 168 M_Mo_levels d 21 [some (.ref 105), some (.int x1), some (.int x2), some (.int 0)] [] (zi S 155 ((x2 : Int32).toNatClampNeg) x1) Q) : zW l Gr (zc n w) 168 M_Mo_levels d 12 [some (.ref 105), some (.int x1), some (.int x2), none] [] S Q := by
  refine z_go (Gr := Gr) (zc := zc n w) (K := 168) oV_Mo_levels 4 (pc' := 18) (L' := [some (.ref 105), some (.int x1), some (.int x2), none]) (st' := [.int x1, .int x2, .ref 187]) rfl ?_
  refine z_iast (Gr := Gr) (c := 155) (oV_Mo_levels.1 (18, .iastore) (ip_lk_mem rfl)) (by decide) (fun _ => rfl) g0 ?_
  refine z_go (Gr := Gr) (zc := zc n w) (K := 168) oV_Mo_levels 2 (pc' := 21) (L' := [some (.ref 105), some (.int x1), some (.int x2), some (.int 0)]) (st' := []) rfl ?_
  exact k0
set_option maxRecDepth 100000 in
theorem b_Mo_levels_21 {l : Launch} {Gr : zG} {n w : Nat} {d : Nat} {S : zS} {Q : Option Value → zS → Prop} {x1 : Int32} {x2 : Int32} {x3 : Int32}  (k0 : (S.1 73 66) ≤ x3 → zW l Gr (zc n w) 168 M_Mo_levels d 65 [some (.ref 105), some (.int x1), some (.int x2), none] [] S Q) (k1 : ¬ (S.1 73 66) ≤ x3 → zW l Gr (zc n w) 168 M_Mo_levels d 29 [some (.ref 105), some (.int x1), some (.int x2), some (.int x3)] [] S Q) : zW l Gr (zc n w) 168 M_Mo_levels d 21 [some (.ref 105), some (.int x1), some (.int x2), some (.int x3)] [] S Q := by
  refine z_go (Gr := Gr) (zc := zc n w) (K := 168) oV_Mo_levels 3 (pc' := 26) (L' := [some (.ref 105), some (.int x1), some (.int x2), some (.int x3)]) (st' := [.int (S.1 73 66), .int x3]) rfl ?_
  exact z_icge (Gr := Gr) (tgt := 65) (oV_Mo_levels.1 (26, .if_icmp .ge 39) (ip_lk_mem rfl)) (by decide) (fun q => (z_forget (k0 q) (And.intro rfl (And.intro rfl (And.intro rfl trivial))))) (fun q => (k1 q))
set_option maxRecDepth 100000 in
theorem b_Mo_levels_65 {l : Launch} {Gr : zG} {n w : Nat} {d : Nat} {S : zS} {Q : Option Value → zS → Prop} {x1 : Int32} {x2 : Int32}  (k0 : zW l Gr (zc n w) 168 M_Mo_levels d 4 [some (.ref 105), some (.int x1), some (.int (x2 + Int32.ofInt 1)), none] [] S Q) : zW l Gr (zc n w) 168 M_Mo_levels d 65 [some (.ref 105), some (.int x1), some (.int x2), none] [] S Q := by
  refine z_go (Gr := Gr) (zc := zc n w) (K := 168) oV_Mo_levels 2 (pc' := 4) (L' := [some (.ref 105), some (.int x1), some (.int (x2 + Int32.ofInt 1)), none]) (st' := []) rfl ?_
  exact k0
set_option maxRecDepth 100000 in
theorem b_Mo_levels_29 {l : Launch} {Gr : zG} {n w : Nat} {d : Nat} {S : zS} {Q : Option Value → zS → Prop} {x1 : Int32} {x2 : Int32} {x3 : Int32} (g0 : vp_in x3 40000) (k0 : ¬ (S.1 111 ((x3 : Int32).toNatClampNeg)) = 1 → zW l Gr (zc n w) 168 M_Mo_levels d 59 [some (.ref 105), some (.int x1), some (.int x2), some (.int x3)] [] S Q) (k1 : (S.1 111 ((x3 : Int32).toNatClampNeg)) = 1 → zW l Gr (zc n w) 168 M_Mo_levels d 39 [some (.ref 105), some (.int x1), some (.int x2), some (.int x3)] [] S Q) : zW l Gr (zc n w) 168 M_Mo_levels d 29 [some (.ref 105), some (.int x1), some (.int x2), some (.int x3)] [] S Q := by
  refine z_go (Gr := Gr) (zc := zc n w) (K := 168) oV_Mo_levels 3 (pc' := 34) (L' := [some (.ref 105), some (.int x1), some (.int x2), some (.int x3)]) (st' := [.int x3, .ref 143]) rfl ?_
  refine z_iald (Gr := Gr) (c := 111) (oV_Mo_levels.1 (34, .iaload) (ip_lk_mem rfl)) (by decide) rfl g0 ?_
  refine z_go (Gr := Gr) (zc := zc n w) (K := 168) oV_Mo_levels 1 (pc' := 36) (L' := [some (.ref 105), some (.int x1), some (.int x2), some (.int x3)]) (st' := [.int 1, .int (S.1 111 ((x3 : Int32).toNatClampNeg))]) rfl ?_
  exact z_icne (Gr := Gr) (tgt := 59) (oV_Mo_levels.1 (36, .if_icmp .ne 23) (ip_lk_mem rfl)) (by decide) (fun q => (k0 q)) (fun q => (k1 q))
set_option maxRecDepth 100000 in
theorem b_Mo_levels_59 {l : Launch} {Gr : zG} {n w : Nat} {d : Nat} {S : zS} {Q : Option Value → zS → Prop} {x1 : Int32} {x2 : Int32} {x3 : Int32}  (k0 : zW l Gr (zc n w) 168 M_Mo_levels d 21 [some (.ref 105), some (.int x1), some (.int x2), some (.int (x3 + Int32.ofInt 1))] [] S Q) : zW l Gr (zc n w) 168 M_Mo_levels d 59 [some (.ref 105), some (.int x1), some (.int x2), some (.int x3)] [] S Q := by
  refine z_go (Gr := Gr) (zc := zc n w) (K := 168) oV_Mo_levels 2 (pc' := 21) (L' := [some (.ref 105), some (.int x1), some (.int x2), some (.int (x3 + Int32.ofInt 1))]) (st' := []) rfl ?_
  exact k0
set_option maxRecDepth 100000 in
theorem b_Mo_levels_39 {l : Launch} {Gr : zG} {n w : Nat} {d : Nat} {S : zS} {Q : Option Value → zS → Prop} {x1 : Int32} {x2 : Int32} {x3 : Int32} (g0 : vp_in x3 40000) (k0 : ¬ (S.1 112 ((x3 : Int32).toNatClampNeg)) = x2 → zW l Gr (zc n w) 168 M_Mo_levels d 59 [some (.ref 105), some (.int x1), some (.int x2), some (.int x3)] [] S Q) (k1 : (S.1 112 ((x3 : Int32).toNatClampNeg)) = x2 → zW l Gr (zc n w) 168 M_Mo_levels d 49 [some (.ref 105), some (.int x1), some (.int x2), some (.int x3)] [] S Q) : zW l Gr (zc n w) 168 M_Mo_levels d 39 [some (.ref 105), some (.int x1), some (.int x2), some (.int x3)] [] S Q := by
  refine z_go (Gr := Gr) (zc := zc n w) (K := 168) oV_Mo_levels 3 (pc' := 44) (L' := [some (.ref 105), some (.int x1), some (.int x2), some (.int x3)]) (st' := [.int x3, .ref 144]) rfl ?_
  refine z_iald (Gr := Gr) (c := 112) (oV_Mo_levels.1 (44, .iaload) (ip_lk_mem rfl)) (by decide) rfl g0 ?_
  refine z_go (Gr := Gr) (zc := zc n w) (K := 168) oV_Mo_levels 1 (pc' := 46) (L' := [some (.ref 105), some (.int x1), some (.int x2), some (.int x3)]) (st' := [.int x2, .int (S.1 112 ((x3 : Int32).toNatClampNeg))]) rfl ?_
  exact z_icne (Gr := Gr) (tgt := 59) (oV_Mo_levels.1 (46, .if_icmp .ne 13) (ip_lk_mem rfl)) (by decide) (fun q => (k0 q)) (fun q => (k1 q))
set_option maxRecDepth 100000 in
theorem b_Mo_levels_49 {l : Launch} {Gr : zG} {n w : Nat} {d : Nat} {S : zS} {Q : Option Value → zS → Prop} {x1 : Int32} {x2 : Int32} {x3 : Int32} (g0 : vp_in x1 40000) (k0 : zW l Gr (zc n w) 168 M_Mo_levels d 59 [some (.ref 105), some (.int (x1 + Int32.ofInt 1)), some (.int x2), some (.int x3)] [] (zi S 156 ((x1 : Int32).toNatClampNeg) x3) Q) : zW l Gr (zc n w) 168 M_Mo_levels d 49 [some (.ref 105), some (.int x1), some (.int x2), some (.int x3)] [] S Q := by
  refine z_go (Gr := Gr) (zc := zc n w) (K := 168) oV_Mo_levels 4 (pc' := 55) (L' := [some (.ref 105), some (.int x1), some (.int x2), some (.int x3)]) (st' := [.int x3, .int x1, .ref 188]) rfl ?_
  refine z_iast (Gr := Gr) (c := 156) (oV_Mo_levels.1 (55, .iastore) (ip_lk_mem rfl)) (by decide) (fun _ => rfl) g0 ?_
  refine z_go (Gr := Gr) (zc := zc n w) (K := 168) oV_Mo_levels 1 (pc' := 59) (L' := [some (.ref 105), some (.int (x1 + Int32.ofInt 1)), some (.int x2), some (.int x3)]) (st' := []) rfl ?_
  exact k0
theorem e_Mo_levels {l : Launch} {Gr : zG} {n w : Nat} {d : Nat} {S : zS} {R : zS → Prop}  (k : zW l Gr (zc n w) 168 M_Mo_levels d 0 [some (.ref 105), none, none, none] [] S (fun v S' => v = none ∧ R S')) : zMv l Gr (zc n w) 168 M_Mo_levels d [.ref 105] S R := z_mv oM_Mo_levels rfl (Nat.le_of_ble_eq_true rfl) k
set_option maxRecDepth 100000 in
theorem b_Mo_compile_0 {l : Launch} {Gr : zG} {n w : Nat} {d : Nat} {S : zS} {Q : Option Value → zS → Prop} {R : zS → Prop} (hg : ip_gk (lg_tbl, vwCl, Gr))   (k0 : zMv l Gr (zc n w) 168 M_Mo_forget d [.ref 105] (zi (zi S 73 7 0) 73 8 (-1)) R) (k1 : ∀ S', R S' → zW l Gr (zc n w) 168 M_Mo_compile (d + 1) 14 [some (.ref 105), none] [] S' Q) : zW l Gr (zc n w) 168 M_Mo_compile (d + 1) 0 [some (.ref 105), none] [] S Q := by
  refine z_go (Gr := Gr) (zc := zc n w) (K := 168) oV_Mo_compile 2 (pc' := 2) (L' := [some (.ref 105), none]) (st' := [.int 0, .ref 105]) rfl ?_
  refine z_putI (Gr := Gr) (c := 73) (oV_Mo_compile.1 (2, .putfield 323) (ip_lk_mem rfl)) (oV_Mo_compile.2.1 (323, 12, 7, .int, false) (ip_lk_mem rfl)).1 (by decide) (zo_73 _ _ _ _) (zs_73_7 _ _ _ _ _) (zn_73_7 _ _ _ _) rfl ?_
  refine z_go (Gr := Gr) (zc := zc n w) (K := 168) oV_Mo_compile 2 (pc' := 7) (L' := [some (.ref 105), none]) (st' := [.int (-1), .ref 105]) rfl ?_
  refine z_putI (Gr := Gr) (c := 73) (oV_Mo_compile.1 (7, .putfield 313) (ip_lk_mem rfl)) (oV_Mo_compile.2.1 (313, 12, 8, .int, false) (ip_lk_mem rfl)).1 (by decide) (zo_73 _ _ _ _) (zs_73_8 _ _ _ _ _) (zn_73_8 _ _ _ _) rfl ?_
  refine z_go (Gr := Gr) (zc := zc n w) (K := 168) oV_Mo_compile 1 (pc' := 11) (L' := [some (.ref 105), none]) (st' := [.ref 105]) rfl ?_
  exact z_callV (Gr := Gr) hg.2.2.1 fT oM_Mo_forget (oV_Mo_compile.1 (11, .invokevirtual 836) (ip_lk_mem rfl)) ⟨tt_9 _ (List.mem_of_getElem? (i := 29) rfl) rfl, tt_9 _ (List.mem_of_getElem? (i := 31) rfl) rfl, fS_Mo_forget⟩ (c := 73) (ci := 12) (As := []) rfl rfl rfl (by decide) rfl (Nat.le_of_ble_eq_true rfl) k0 (fun v S' q => by obtain ⟨rfl, q⟩ := q; exact (k1 _ q))
set_option maxRecDepth 100000 in
theorem b_Mo_compile_14 {l : Launch} {Gr : zG} {n w : Nat} {d : Nat} {S : zS} {Q : Option Value → zS → Prop} {R : zS → Prop} (hg : ip_gk (lg_tbl, vwCl, Gr))   (k0 : zMv l Gr (zc n w) 168 M_Mo_program d [.ref 105] S R) (k1 : ∀ S', R S' → zW l Gr (zc n w) 168 M_Mo_compile (d + 1) 18 [some (.ref 105), none] [] S' Q) : zW l Gr (zc n w) 168 M_Mo_compile (d + 1) 14 [some (.ref 105), none] [] S Q := by
  refine z_go (Gr := Gr) (zc := zc n w) (K := 168) oV_Mo_compile 1 (pc' := 15) (L' := [some (.ref 105), none]) (st' := [.ref 105]) rfl ?_
  exact z_callV (Gr := Gr) hg.2.2.1 fT oM_Mo_program (oV_Mo_compile.1 (15, .invokevirtual 839) (ip_lk_mem rfl)) ⟨tt_9 _ (List.mem_of_getElem? (i := 33) rfl) rfl, tt_9 _ (List.mem_of_getElem? (i := 35) rfl) rfl, fS_Mo_program⟩ (c := 73) (ci := 12) (As := []) rfl rfl rfl (by decide) rfl (Nat.le_of_ble_eq_true rfl) k0 (fun v S' q => by obtain ⟨rfl, q⟩ := q; exact (k1 _ q))
set_option maxRecDepth 100000 in
theorem b_Mo_compile_18 {l : Launch} {Gr : zG} {n w : Nat} {d : Nat} {S : zS} {Q : Option Value → zS → Prop}   (k0 : ¬ (S.1 73 7) = 0 → zW l Gr (zc n w) 168 M_Mo_compile (d + 1) 29 [some (.ref 105), none] [] S Q) (k1 : (S.1 73 7) = 0 → zW l Gr (zc n w) 168 M_Mo_compile (d + 1) 25 [some (.ref 105), none] [] S Q) : zW l Gr (zc n w) 168 M_Mo_compile (d + 1) 18 [some (.ref 105), none] [] S Q := by
  refine z_go (Gr := Gr) (zc := zc n w) (K := 168) oV_Mo_compile 2 (pc' := 22) (L' := [some (.ref 105), none]) (st' := [.int (S.1 73 7)]) rfl ?_
  exact z_ifne (Gr := Gr) (tgt := 29) (oV_Mo_compile.1 (22, .ifCond .ne 7) (ip_lk_mem rfl)) (by decide) (fun q => (k0 q)) (fun q => (k1 q))
set_option maxRecDepth 100000 in
theorem b_Mo_compile_29 {l : Launch} {Gr : zG} {n w : Nat} {d : Nat} {S : zS} {Q : Option Value → zS → Prop}   (k0 : ¬ (S.1 73 7) = 0 → zW l Gr (zc n w) 168 M_Mo_compile (d + 1) 40 [some (.ref 105), none] [] S Q) (k1 : (S.1 73 7) = 0 → zW l Gr (zc n w) 168 M_Mo_compile (d + 1) 36 [some (.ref 105), none] [] S Q) : zW l Gr (zc n w) 168 M_Mo_compile (d + 1) 29 [some (.ref 105), none] [] S Q := by
  refine z_go (Gr := Gr) (zc := zc n w) (K := 168) oV_Mo_compile 2 (pc' := 33) (L' := [some (.ref 105), none]) (st' := [.int (S.1 73 7)]) rfl ?_
  exact z_ifne (Gr := Gr) (tgt := 40) (oV_Mo_compile.1 (33, .ifCond .ne 7) (ip_lk_mem rfl)) (by decide) (fun q => (k0 q)) (fun q => (k1 q))
set_option maxRecDepth 100000 in
theorem b_Mo_compile_25 {l : Launch} {Gr : zG} {n w : Nat} {d : Nat} {S : zS} {Q : Option Value → zS → Prop} {R : zS → Prop} (hg : ip_gk (lg_tbl, vwCl, Gr))   (k0 : zMv l Gr (zc n w) 168 M_Mo_sorts d [.ref 105] S R) (k1 : ∀ S', R S' → zW l Gr (zc n w) 168 M_Mo_compile (d + 1) 29 [some (.ref 105), none] [] S' Q) : zW l Gr (zc n w) 168 M_Mo_compile (d + 1) 25 [some (.ref 105), none] [] S Q := by
  refine z_go (Gr := Gr) (zc := zc n w) (K := 168) oV_Mo_compile 1 (pc' := 26) (L' := [some (.ref 105), none]) (st' := [.ref 105]) rfl ?_
  exact z_callV (Gr := Gr) hg.2.2.1 fT oM_Mo_sorts (oV_Mo_compile.1 (26, .invokevirtual 842) (ip_lk_mem rfl)) ⟨tt_9 _ (List.mem_of_getElem? (i := 207) rfl) rfl, tt_9 _ (List.mem_of_getElem? (i := 209) rfl) rfl, fS_Mo_sorts⟩ (c := 73) (ci := 12) (As := []) rfl rfl rfl (by decide) rfl (Nat.le_of_ble_eq_true rfl) k0 (fun v S' q => by obtain ⟨rfl, q⟩ := q; exact (k1 _ q))
set_option maxRecDepth 100000 in
theorem b_Mo_compile_40 {l : Launch} {Gr : zG} {n w : Nat} {d : Nat} {S : zS} {Q : Option Value → zS → Prop}   (k0 : ¬ (S.1 73 7) = 0 → zW l Gr (zc n w) 168 M_Mo_compile (d + 1) 52 [some (.ref 105), none] [.ref 105] S Q) (k1 : (S.1 73 7) = 0 → zW l Gr (zc n w) 168 M_Mo_compile (d + 1) 48 [some (.ref 105), none] [.ref 105] S Q) : zW l Gr (zc n w) 168 M_Mo_compile (d + 1) 40 [some (.ref 105), none] [] S Q := by
  refine z_go (Gr := Gr) (zc := zc n w) (K := 168) oV_Mo_compile 3 (pc' := 45) (L' := [some (.ref 105), none]) (st' := [.int (S.1 73 7), .ref 105]) rfl ?_
  exact z_ifne (Gr := Gr) (tgt := 52) (oV_Mo_compile.1 (45, .ifCond .ne 7) (ip_lk_mem rfl)) (by decide) (fun q => (k0 q)) (fun q => (k1 q))
set_option maxRecDepth 100000 in
theorem b_Mo_compile_36 {l : Launch} {Gr : zG} {n w : Nat} {d : Nat} {S : zS} {Q : Option Value → zS → Prop} {R : zS → Prop} (hg : ip_gk (lg_tbl, vwCl, Gr))   (k0 : zMv l Gr (zc n w) 168 M_Mo_build d [.ref 105] S R) (k1 : ∀ S', R S' → zW l Gr (zc n w) 168 M_Mo_compile (d + 1) 40 [some (.ref 105), none] [] S' Q) : zW l Gr (zc n w) 168 M_Mo_compile (d + 1) 36 [some (.ref 105), none] [] S Q := by
  refine z_go (Gr := Gr) (zc := zc n w) (K := 168) oV_Mo_compile 1 (pc' := 37) (L' := [some (.ref 105), none]) (st' := [.ref 105]) rfl ?_
  exact z_callV (Gr := Gr) hg.2.2.1 fT oM_Mo_build (oV_Mo_compile.1 (37, .invokevirtual 845) (ip_lk_mem rfl)) ⟨tt_10 _ (List.mem_of_getElem? (i := 40) rfl) rfl, tt_10 _ (List.mem_of_getElem? (i := 42) rfl) rfl, fS_Mo_build⟩ (c := 73) (ci := 12) (As := []) rfl rfl rfl (by decide) rfl (Nat.le_of_ble_eq_true rfl) k0 (fun v S' q => by obtain ⟨rfl, q⟩ := q; exact (k1 _ q))
set_option maxRecDepth 100000 in
theorem b_Mo_compile_52 {l : Launch} {Gr : zG} {n w : Nat} {d : Nat} {S : zS} {Q : Option Value → zS → Prop}   (k0 : zW l Gr (zc n w) 168 M_Mo_compile (d + 1) 53 [some (.ref 105), none] [.int 0, .ref 105] S Q) : zW l Gr (zc n w) 168 M_Mo_compile (d + 1) 52 [some (.ref 105), none] [.ref 105] S Q := by
  refine z_go (Gr := Gr) (zc := zc n w) (K := 168) oV_Mo_compile 1 (pc' := 53) (L' := [some (.ref 105), none]) (st' := [.int 0, .ref 105]) rfl ?_
  exact k0
set_option maxRecDepth 100000 in
theorem b_Mo_compile_48 {l : Launch} {Gr : zG} {n w : Nat} {d : Nat} {S : zS} {Q : Option Value → zS → Prop}   (k0 : zW l Gr (zc n w) 168 M_Mo_compile (d + 1) 53 [some (.ref 105), none] [.int 1, .ref 105] S Q) : zW l Gr (zc n w) 168 M_Mo_compile (d + 1) 48 [some (.ref 105), none] [.ref 105] S Q := by
  refine z_go (Gr := Gr) (zc := zc n w) (K := 168) oV_Mo_compile 2 (pc' := 53) (L' := [some (.ref 105), none]) (st' := [.int 1, .ref 105]) rfl ?_
  exact k0
set_option maxRecDepth 100000 in
theorem b_Mo_compile_53 {l : Launch} {Gr : zG} {n w : Nat} {d : Nat} {S : zS} {Q : Option Value → zS → Prop} {s0 : Int32} (g0 : fits .boolean (.int s0) = true) (k0 : s0 = 0 → zW l Gr (zc n w) 168 M_Mo_compile (d + 1) 167 [some (.ref 105), none] [] (zi (zi S 73 83 s0) 73 5 0) Q) (k1 : ¬ s0 = 0 → zW l Gr (zc n w) 168 M_Mo_compile (d + 1) 68 [some (.ref 105), none] [] (zi (zi S 73 83 s0) 73 5 0) Q) : zW l Gr (zc n w) 168 M_Mo_compile (d + 1) 53 [some (.ref 105), none] [.int s0, .ref 105] S Q := by
  refine z_putI (Gr := Gr) (c := 73) (oV_Mo_compile.1 (53, .putfield 848) (ip_lk_mem rfl)) (oV_Mo_compile.2.1 (848, 12, 83, .boolean, false) (ip_lk_mem rfl)).1 (by decide) (zo_73 _ _ _ _) (zs_73_83 _ _ _ _ _) (zn_73_83 _ _ _ _) g0 ?_
  refine z_go (Gr := Gr) (zc := zc n w) (K := 168) oV_Mo_compile 2 (pc' := 58) (L' := [some (.ref 105), none]) (st' := [.int 0, .ref 105]) rfl ?_
  refine z_putI (Gr := Gr) (c := 73) (oV_Mo_compile.1 (58, .putfield 320) (ip_lk_mem rfl)) (oV_Mo_compile.2.1 (320, 12, 5, .int, false) (ip_lk_mem rfl)).1 (by decide) (zo_73 _ _ _ _) (zs_73_5 _ _ _ _ _) (zn_73_5 _ _ _ _) rfl ?_
  refine z_go (Gr := Gr) (zc := zc n w) (K := 168) oV_Mo_compile 1 (pc' := 62) (L' := [some (.ref 105), none]) (st' := [.ref 105]) rfl ?_
  refine z_getI (Gr := Gr) (c := 73) (oV_Mo_compile.1 (62, .getfield 848) (ip_lk_mem rfl)) (oV_Mo_compile.2.1 (848, 12, 83, .boolean, false) (ip_lk_mem rfl)).1 (by decide) (zo_73 _ _ _ _) (zg_73_83 _ _ _ _) (Eq.trans (zi_k (by decide)) zi_v) ?_
  exact z_ifeq (Gr := Gr) (tgt := 167) (oV_Mo_compile.1 (65, .ifCond .eq 102) (ip_lk_mem rfl)) (by decide) (fun q => (k0 q)) (fun q => (k1 q))
set_option maxRecDepth 100000 in
theorem b_Mo_compile_167 {l : Launch} {Gr : zG} {n w : Nat} {d : Nat} {S : zS} {Q : Option Value → zS → Prop}   (k0 : Q (some (.int (S.1 73 7))) S) : zW l Gr (zc n w) 168 M_Mo_compile (d + 1) 167 [some (.ref 105), none] [] S Q := by
  refine z_go (Gr := Gr) (zc := zc n w) (K := 168) oV_Mo_compile 2 (pc' := 171) (L' := [some (.ref 105), none]) (st' := [.int (S.1 73 7)]) rfl ?_
  exact z_ret (v := (some (.int (S.1 73 7)))) (oV_Mo_compile.1 (171, .ireturn) (ip_lk_mem rfl)) k0
set_option maxRecDepth 100000 in
theorem b_Mo_compile_68 {l : Launch} {Gr : zG} {n w : Nat} {d : Nat} {S : zS} {Q : Option Value → zS → Prop} {R : zS → Prop} (hg : ip_gk (lg_tbl, vwCl, Gr))   (k0 : zMv l Gr (zc n w) 168 M_Mo_levels d [.ref 105] S R) (k1 : ∀ S', R S' → zW l Gr (zc n w) 168 M_Mo_compile (d + 1) 72 [some (.ref 105), none] [] S' Q) : zW l Gr (zc n w) 168 M_Mo_compile (d + 1) 68 [some (.ref 105), none] [] S Q := by
  refine z_go (Gr := Gr) (zc := zc n w) (K := 168) oV_Mo_compile 1 (pc' := 69) (L' := [some (.ref 105), none]) (st' := [.ref 105]) rfl ?_
  exact z_callV (Gr := Gr) hg.2.2.1 fT oM_Mo_levels (oV_Mo_compile.1 (69, .invokevirtual 851) (ip_lk_mem rfl)) ⟨tt_10 _ (List.mem_of_getElem? (i := 181) rfl) rfl, tt_10 _ (List.mem_of_getElem? (i := 183) rfl) rfl, fS_Mo_levels⟩ (c := 73) (ci := 12) (As := []) rfl rfl rfl (by decide) rfl (Nat.le_of_ble_eq_true rfl) k0 (fun v S' q => by obtain ⟨rfl, q⟩ := q; exact (k1 _ q))
set_option maxRecDepth 100000 in
theorem b_Mo_compile_72 {l : Launch} {Gr : zG} {n w : Nat} {d : Nat} {S : zS} {Q : Option Value → zS → Prop}   (k0 : zW l Gr (zc n w) 168 M_Mo_compile (d + 1) 79 [some (.ref 105), some (.int 0)] [] (zi S 73 145 0) Q) : zW l Gr (zc n w) 168 M_Mo_compile (d + 1) 72 [some (.ref 105), none] [] S Q := by
  refine z_go (Gr := Gr) (zc := zc n w) (K := 168) oV_Mo_compile 2 (pc' := 74) (L' := [some (.ref 105), none]) (st' := [.int 0, .ref 105]) rfl ?_
  refine z_putI (Gr := Gr) (c := 73) (oV_Mo_compile.1 (74, .putfield 824) (ip_lk_mem rfl)) (oV_Mo_compile.2.1 (824, 12, 145, .int, false) (ip_lk_mem rfl)).1 (by decide) (zo_73 _ _ _ _) (zs_73_145 _ _ _ _ _) (zn_73_145 _ _ _ _) rfl ?_
  refine z_go (Gr := Gr) (zc := zc n w) (K := 168) oV_Mo_compile 2 (pc' := 79) (L' := [some (.ref 105), some (.int 0)]) (st' := []) rfl ?_
  exact k0
set_option maxRecDepth 100000 in
theorem b_Mo_compile_79 {l : Launch} {Gr : zG} {n w : Nat} {d : Nat} {S : zS} {Q : Option Value → zS → Prop} {x1 : Int32}  (k0 : (S.1 73 69) ≤ x1 → zW l Gr (zc n w) 168 M_Mo_compile (d + 1) 108 [some (.ref 105), none] [] S Q) (k1 : ¬ (S.1 73 69) ≤ x1 → zW l Gr (zc n w) 168 M_Mo_compile (d + 1) 87 [some (.ref 105), some (.int x1)] [] S Q) : zW l Gr (zc n w) 168 M_Mo_compile (d + 1) 79 [some (.ref 105), some (.int x1)] [] S Q := by
  refine z_go (Gr := Gr) (zc := zc n w) (K := 168) oV_Mo_compile 3 (pc' := 84) (L' := [some (.ref 105), some (.int x1)]) (st' := [.int (S.1 73 69), .int x1]) rfl ?_
  exact z_icge (Gr := Gr) (tgt := 108) (oV_Mo_compile.1 (84, .if_icmp .ge 24) (ip_lk_mem rfl)) (by decide) (fun q => (z_forget (k0 q) (And.intro rfl trivial))) (fun q => (k1 q))
set_option maxRecDepth 100000 in
theorem b_Mo_compile_108 {l : Launch} {Gr : zG} {n w : Nat} {d : Nat} {S : zS} {Q : Option Value → zS → Prop}   (k0 : zW l Gr (zc n w) 168 M_Mo_compile (d + 1) 110 [some (.ref 105), some (.int 0)] [] S Q) : zW l Gr (zc n w) 168 M_Mo_compile (d + 1) 108 [some (.ref 105), none] [] S Q := by
  refine z_go (Gr := Gr) (zc := zc n w) (K := 168) oV_Mo_compile 2 (pc' := 110) (L' := [some (.ref 105), some (.int 0)]) (st' := []) rfl ?_
  exact k0
set_option maxRecDepth 100000 in
theorem b_Mo_compile_87 {l : Launch} {Gr : zG} {n w : Nat} {d : Nat} {S : zS} {Q : Option Value → zS → Prop} {x1 : Int32} (g0 : vp_in x1 500) (k0 : zW l Gr (zc n w) 168 M_Mo_compile (d + 1) 79 [some (.ref 105), some (.int (x1 + Int32.ofInt 1))] [] (zi S 73 145 ((S.1 73 145) + (S.1 120 ((x1 : Int32).toNatClampNeg)))) Q) : zW l Gr (zc n w) 168 M_Mo_compile (d + 1) 87 [some (.ref 105), some (.int x1)] [] S Q := by
  refine z_go (Gr := Gr) (zc := zc n w) (K := 168) oV_Mo_compile 6 (pc' := 97) (L' := [some (.ref 105), some (.int x1)]) (st' := [.int x1, .ref 152, .int (S.1 73 145), .ref 105]) rfl ?_
  refine z_iald (Gr := Gr) (c := 120) (oV_Mo_compile.1 (97, .iaload) (ip_lk_mem rfl)) (by decide) rfl g0 ?_
  refine z_go (Gr := Gr) (zc := zc n w) (K := 168) oV_Mo_compile 1 (pc' := 99) (L' := [some (.ref 105), some (.int x1)]) (st' := [.int ((S.1 73 145) + (S.1 120 ((x1 : Int32).toNatClampNeg))), .ref 105]) rfl ?_
  refine z_putI (Gr := Gr) (c := 73) (oV_Mo_compile.1 (99, .putfield 824) (ip_lk_mem rfl)) (oV_Mo_compile.2.1 (824, 12, 145, .int, false) (ip_lk_mem rfl)).1 (by decide) (zo_73 _ _ _ _) (zs_73_145 _ _ _ _ _) (zn_73_145 _ _ _ _) rfl ?_
  refine z_go (Gr := Gr) (zc := zc n w) (K := 168) oV_Mo_compile 2 (pc' := 79) (L' := [some (.ref 105), some (.int (x1 + Int32.ofInt 1))]) (st' := []) rfl ?_
  exact k0
set_option maxRecDepth 100000 in
theorem b_Mo_compile_110 {l : Launch} {Gr : zG} {n w : Nat} {d : Nat} {S : zS} {Q : Option Value → zS → Prop} {x1 : Int32}  (k0 : (nI n) ≤ x1 → zW l Gr (zc n w) 168 M_Mo_compile (d + 1) 131 [some (.ref 105), none] [] S Q) (k1 : ¬ (nI n) ≤ x1 → zW l Gr (zc n w) 168 M_Mo_compile (d + 1) 118 [some (.ref 105), some (.int x1)] [] S Q) : zW l Gr (zc n w) 168 M_Mo_compile (d + 1) 110 [some (.ref 105), some (.int x1)] [] S Q := by
  refine z_go (Gr := Gr) (zc := zc n w) (K := 168) oV_Mo_compile 3 (pc' := 115) (L' := [some (.ref 105), some (.int x1)]) (st' := [.int (nI n), .int x1]) rfl ?_
  exact z_icge (Gr := Gr) (tgt := 131) (oV_Mo_compile.1 (115, .if_icmp .ge 16) (ip_lk_mem rfl)) (by decide) (fun q => (z_forget (k0 q) (And.intro rfl trivial))) (fun q => (k1 q))
set_option maxRecDepth 100000 in
theorem b_Mo_compile_131 {l : Launch} {Gr : zG} {n w : Nat} {d : Nat} {S : zS} {Q : Option Value → zS → Prop}   (k0 : zW l Gr (zc n w) 168 M_Mo_compile (d + 1) 133 [some (.ref 105), some (.int 0)] [] S Q) : zW l Gr (zc n w) 168 M_Mo_compile (d + 1) 131 [some (.ref 105), none] [] S Q := by
  refine z_go (Gr := Gr) (zc := zc n w) (K := 168) oV_Mo_compile 2 (pc' := 133) (L' := [some (.ref 105), some (.int 0)]) (st' := []) rfl ?_
  exact k0
set_option maxRecDepth 100000 in
theorem b_Mo_compile_118 {l : Launch} {Gr : zG} {n w : Nat} {d : Nat} {S : zS} {Q : Option Value → zS → Prop} {x1 : Int32} (g0 : vp_in x1 16) (k0 : zW l Gr (zc n w) 168 M_Mo_compile (d + 1) 110 [some (.ref 105), some (.int (x1 + Int32.ofInt 1))] [] (zi S 167 ((x1 : Int32).toNatClampNeg) 0) Q) : zW l Gr (zc n w) 168 M_Mo_compile (d + 1) 118 [some (.ref 105), some (.int x1)] [] S Q := by
  refine z_go (Gr := Gr) (zc := zc n w) (K := 168) oV_Mo_compile 4 (pc' := 124) (L' := [some (.ref 105), some (.int x1)]) (st' := [.int 0, .int x1, .ref 199]) rfl ?_
  refine z_iast (Gr := Gr) (c := 167) (oV_Mo_compile.1 (124, .iastore) (ip_lk_mem rfl)) (by decide) (fun _ => rfl) g0 ?_
  refine z_go (Gr := Gr) (zc := zc n w) (K := 168) oV_Mo_compile 2 (pc' := 110) (L' := [some (.ref 105), some (.int (x1 + Int32.ofInt 1))]) (st' := []) rfl ?_
  exact k0
set_option maxRecDepth 100000 in
theorem b_Mo_compile_133 {l : Launch} {Gr : zG} {n w : Nat} {d : Nat} {S : zS} {Q : Option Value → zS → Prop} {x1 : Int32}  (k0 : (S.1 73 75) ≤ x1 → zW l Gr (zc n w) 168 M_Mo_compile (d + 1) 167 [some (.ref 105), none] [] S Q) (k1 : ¬ (S.1 73 75) ≤ x1 → zW l Gr (zc n w) 168 M_Mo_compile (d + 1) 141 [some (.ref 105), some (.int x1)] [] S Q) : zW l Gr (zc n w) 168 M_Mo_compile (d + 1) 133 [some (.ref 105), some (.int x1)] [] S Q := by
  refine z_go (Gr := Gr) (zc := zc n w) (K := 168) oV_Mo_compile 3 (pc' := 138) (L' := [some (.ref 105), some (.int x1)]) (st' := [.int (S.1 73 75), .int x1]) rfl ?_
  exact z_icge (Gr := Gr) (tgt := 167) (oV_Mo_compile.1 (138, .if_icmp .ge 29) (ip_lk_mem rfl)) (by decide) (fun q => (z_forget (k0 q) (And.intro rfl trivial))) (fun q => (k1 q))
set_option maxRecDepth 100000 in
theorem b_Mo_compile_141 {l : Launch} {Gr : zG} {n w : Nat} {d : Nat} {S : zS} {Q : Option Value → zS → Prop} {x1 : Int32} (g0 : vp_in x1 256) (g1 : vp_in (S.1 115 ((x1 : Int32).toNatClampNeg)) 16) (k0 : zW l Gr (zc n w) 168 M_Mo_compile (d + 1) 133 [some (.ref 105), some (.int (x1 + Int32.ofInt 1))] [] (zi S 167 (((S.1 115 ((x1 : Int32).toNatClampNeg)) : Int32).toNatClampNeg) ((S.1 167 (((S.1 115 ((x1 : Int32).toNatClampNeg)) : Int32).toNatClampNeg)) + (S.1 116 ((x1 : Int32).toNatClampNeg)))) Q) : zW l Gr (zc n w) 168 M_Mo_compile (d + 1) 141 [some (.ref 105), some (.int x1)] [] S Q := by
  refine z_go (Gr := Gr) (zc := zc n w) (K := 168) oV_Mo_compile 5 (pc' := 150) (L' := [some (.ref 105), some (.int x1)]) (st' := [.int x1, .ref 147, .ref 199]) rfl ?_
  refine z_iald (Gr := Gr) (c := 115) (oV_Mo_compile.1 (150, .iaload) (ip_lk_mem rfl)) (by decide) rfl g0 ?_
  refine z_go (Gr := Gr) (zc := zc n w) (K := 168) oV_Mo_compile 1 (pc' := 152) (L' := [some (.ref 105), some (.int x1)]) (st' := [.int (S.1 115 ((x1 : Int32).toNatClampNeg)), .ref 199, .int (S.1 115 ((x1 : Int32).toNatClampNeg)), .ref 199]) rfl ?_
  refine z_iald (Gr := Gr) (c := 167) (oV_Mo_compile.1 (152, .iaload) (ip_lk_mem rfl)) (by decide) rfl g1 ?_
  refine z_go (Gr := Gr) (zc := zc n w) (K := 168) oV_Mo_compile 3 (pc' := 158) (L' := [some (.ref 105), some (.int x1)]) (st' := [.int x1, .ref 148, .int (S.1 167 (((S.1 115 ((x1 : Int32).toNatClampNeg)) : Int32).toNatClampNeg)), .int (S.1 115 ((x1 : Int32).toNatClampNeg)), .ref 199]) rfl ?_
  refine z_iald (Gr := Gr) (c := 116) (oV_Mo_compile.1 (158, .iaload) (ip_lk_mem rfl)) (by decide) rfl g0 ?_
  refine z_go (Gr := Gr) (zc := zc n w) (K := 168) oV_Mo_compile 1 (pc' := 160) (L' := [some (.ref 105), some (.int x1)]) (st' := [.int ((S.1 167 (((S.1 115 ((x1 : Int32).toNatClampNeg)) : Int32).toNatClampNeg)) + (S.1 116 ((x1 : Int32).toNatClampNeg))), .int (S.1 115 ((x1 : Int32).toNatClampNeg)), .ref 199]) rfl ?_
  refine z_iast (Gr := Gr) (c := 167) (oV_Mo_compile.1 (160, .iastore) (ip_lk_mem rfl)) (by decide) (fun _ => rfl) g1 ?_
  refine z_go (Gr := Gr) (zc := zc n w) (K := 168) oV_Mo_compile 2 (pc' := 133) (L' := [some (.ref 105), some (.int (x1 + Int32.ofInt 1))]) (st' := []) rfl ?_
  exact k0
theorem e_Mo_compile {l : Launch} {Gr : zG} {n w : Nat} {d : Nat} {S : zS} {R : Int32 → zS → Prop}  (k : zW l Gr (zc n w) 168 M_Mo_compile (d + 1) 0 [some (.ref 105), none] [] S (fun v S' => ∃ x, v = some (.int x) ∧ R x S')) : zMi l Gr (zc n w) 168 M_Mo_compile (d + 1) [.ref 105] S R := z_mi oM_Mo_compile rfl (Nat.le_of_ble_eq_true rfl) k
