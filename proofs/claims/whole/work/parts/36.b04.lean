set_option maxRecDepth 100000 in
theorem b_Code_addWith_0 {l : Launch} {Gr : zG} {n w : Nat} {d : Nat} {S : zS} {Q : Option Value → zS → Prop} {x1 : Int32} {x2 : Int32} {x3 : Int32} {x4 : Int32}  (k0 : ¬ (S.1 3 5) = 0 → zW l Gr (zc n w) 168 M_Code_addWith d 17 [none, none, none, none, none] [] S Q) (k1 : (S.1 3 5) = 0 → zW l Gr (zc n w) 168 M_Code_addWith d 7 [some (.ref 35), some (.int x1), some (.int x2), some (.int x3), some (.int x4)] [] S Q) : zW l Gr (zc n w) 168 M_Code_addWith d 0 [some (.ref 35), some (.int x1), some (.int x2), some (.int x3), some (.int x4)] [] S Q := by
  refine z_go (Gr := Gr) (zc := zc n w) (K := 168) oV_Code_addWith 2 (pc' := 4) (L' := [some (.ref 35), some (.int x1), some (.int x2), some (.int x3), some (.int x4)]) (st' := [.int (S.1 3 5)]) rfl ?_
  exact z_ifne (Gr := Gr) (tgt := 17) (oV_Code_addWith.1 (4, .ifCond .ne 13) (ip_lk_mem rfl)) (by decide) (fun q => (z_forget (k0 q) trivial)) (fun q => (k1 q))
set_option maxRecDepth 100000 in
theorem b_Code_addWith_17 {l : Launch} {Gr : zG} {n w : Nat} {d : Nat} {S : zS} {Q : Option Value → zS → Prop}   (k0 : Q (some (.int 0)) S) : zW l Gr (zc n w) 168 M_Code_addWith d 17 [none, none, none, none, none] [] S Q := by
  refine z_go (Gr := Gr) (zc := zc n w) (K := 168) oV_Code_addWith 1 (pc' := 18) (L' := [none, none, none, none, none]) (st' := [.int 0]) rfl ?_
  exact z_ret (v := (some (.int 0))) (oV_Code_addWith.1 (18, .ireturn) (ip_lk_mem rfl)) k0
set_option maxRecDepth 100000 in
theorem b_Code_addWith_7 {l : Launch} {Gr : zG} {n w : Nat} {d : Nat} {S : zS} {Q : Option Value → zS → Prop} {x1 : Int32} {x2 : Int32} {x3 : Int32} {x4 : Int32}  (k0 : (S.1 3 4) < 4000 → zW l Gr (zc n w) 168 M_Code_addWith d 19 [some (.ref 35), some (.int x1), some (.int x2), some (.int x3), some (.int x4)] [] S Q) (k1 : ¬ (S.1 3 4) < 4000 → zW l Gr (zc n w) 168 M_Code_addWith d 17 [none, none, none, none, none] [] S Q) : zW l Gr (zc n w) 168 M_Code_addWith d 7 [some (.ref 35), some (.int x1), some (.int x2), some (.int x3), some (.int x4)] [] S Q := by
  refine z_go (Gr := Gr) (zc := zc n w) (K := 168) oV_Code_addWith 3 (pc' := 14) (L' := [some (.ref 35), some (.int x1), some (.int x2), some (.int x3), some (.int x4)]) (st' := [.int 4000, .int (S.1 3 4)]) rfl ?_
  exact z_iclt (Gr := Gr) (tgt := 19) (oV_Code_addWith.1 (14, .if_icmp .lt 5) (ip_lk_mem rfl)) (by decide) (fun q => (k0 q)) (fun q => (z_forget (k1 q) trivial))
set_option maxRecDepth 100000 in
theorem b_Code_addWith_19 {l : Launch} {Gr : zG} {n w : Nat} {d : Nat} {S : zS} {Q : Option Value → zS → Prop} {x1 : Int32} {x2 : Int32} {x3 : Int32} {x4 : Int32} (g0 : vp_in (S.1 3 4) 4000) (k0 : Q (some (.int (S.1 3 4))) (zi (zi (zi (zi (zi S 4 (((S.1 3 4) : Int32).toNatClampNeg) x1) 5 (((S.1 3 4) : Int32).toNatClampNeg) x2) 6 (((S.1 3 4) : Int32).toNatClampNeg) x3) 7 (((S.1 3 4) : Int32).toNatClampNeg) x4) 3 4 ((S.1 3 4) + 1))) : zW l Gr (zc n w) 168 M_Code_addWith d 19 [some (.ref 35), some (.int x1), some (.int x2), some (.int x3), some (.int x4)] [] S Q := by
  refine z_go (Gr := Gr) (zc := zc n w) (K := 168) oV_Code_addWith 5 (pc' := 28) (L' := [some (.ref 35), some (.int x1), some (.int x2), some (.int x3), some (.int x4)]) (st' := [.int x1, .int (S.1 3 4), .ref 36]) rfl ?_
  refine z_iast (Gr := Gr) (c := 4) (oV_Code_addWith.1 (28, .iastore) (ip_lk_mem rfl)) (by decide) (fun _ => rfl) g0 ?_
  refine z_go (Gr := Gr) (zc := zc n w) (K := 168) oV_Code_addWith 3 (pc' := 34) (L' := [some (.ref 35), some (.int x1), some (.int x2), some (.int x3), some (.int x4)]) (st' := [.ref 35, .ref 37]) rfl ?_
  refine z_getI (Gr := Gr) (c := 3) (oV_Code_addWith.1 (34, .getfield 28) (ip_lk_mem rfl)) (oV_Code_addWith.2.1 (28, 2, 4, .int, false) (ip_lk_mem rfl)).1 (by decide) (zo_3 _ _ _ _) (zg_3_4 _ _ _ _) (zi_c (by decide)) ?_
  refine z_go (Gr := Gr) (zc := zc n w) (K := 168) oV_Code_addWith 1 (pc' := 38) (L' := [some (.ref 35), some (.int x1), some (.int x2), some (.int x3), some (.int x4)]) (st' := [.int x2, .int (S.1 3 4), .ref 37]) rfl ?_
  refine z_iast (Gr := Gr) (c := 5) (oV_Code_addWith.1 (38, .iastore) (ip_lk_mem rfl)) (by decide) (fun _ => rfl) g0 ?_
  refine z_go (Gr := Gr) (zc := zc n w) (K := 168) oV_Code_addWith 3 (pc' := 44) (L' := [some (.ref 35), some (.int x1), some (.int x2), some (.int x3), some (.int x4)]) (st' := [.ref 35, .ref 38]) rfl ?_
  refine z_getI (Gr := Gr) (c := 3) (oV_Code_addWith.1 (44, .getfield 28) (ip_lk_mem rfl)) (oV_Code_addWith.2.1 (28, 2, 4, .int, false) (ip_lk_mem rfl)).1 (by decide) (zo_3 _ _ _ _) (zg_3_4 _ _ _ _) (Eq.trans (zi_c (by decide)) (zi_c (by decide))) ?_
  refine z_go (Gr := Gr) (zc := zc n w) (K := 168) oV_Code_addWith 1 (pc' := 48) (L' := [some (.ref 35), some (.int x1), some (.int x2), some (.int x3), some (.int x4)]) (st' := [.int x3, .int (S.1 3 4), .ref 38]) rfl ?_
  refine z_iast (Gr := Gr) (c := 6) (oV_Code_addWith.1 (48, .iastore) (ip_lk_mem rfl)) (by decide) (fun _ => rfl) g0 ?_
  refine z_go (Gr := Gr) (zc := zc n w) (K := 168) oV_Code_addWith 3 (pc' := 54) (L' := [some (.ref 35), some (.int x1), some (.int x2), some (.int x3), some (.int x4)]) (st' := [.ref 35, .ref 39]) rfl ?_
  refine z_getI (Gr := Gr) (c := 3) (oV_Code_addWith.1 (54, .getfield 28) (ip_lk_mem rfl)) (oV_Code_addWith.2.1 (28, 2, 4, .int, false) (ip_lk_mem rfl)).1 (by decide) (zo_3 _ _ _ _) (zg_3_4 _ _ _ _) (Eq.trans (zi_c (by decide)) (Eq.trans (zi_c (by decide)) (zi_c (by decide)))) ?_
  refine z_go (Gr := Gr) (zc := zc n w) (K := 168) oV_Code_addWith 1 (pc' := 59) (L' := [some (.ref 35), some (.int x1), some (.int x2), some (.int x3), some (.int x4)]) (st' := [.int x4, .int (S.1 3 4), .ref 39]) rfl ?_
  refine z_iast (Gr := Gr) (c := 7) (oV_Code_addWith.1 (59, .iastore) (ip_lk_mem rfl)) (by decide) (fun _ => rfl) g0 ?_
  refine z_go (Gr := Gr) (zc := zc n w) (K := 168) oV_Code_addWith 2 (pc' := 62) (L' := [some (.ref 35), some (.int x1), some (.int x2), some (.int x3), some (.int x4)]) (st' := [.ref 35, .ref 35]) rfl ?_
  refine z_getI (Gr := Gr) (c := 3) (oV_Code_addWith.1 (62, .getfield 28) (ip_lk_mem rfl)) (oV_Code_addWith.2.1 (28, 2, 4, .int, false) (ip_lk_mem rfl)).1 (by decide) (zo_3 _ _ _ _) (zg_3_4 _ _ _ _) (Eq.trans (zi_c (by decide)) (Eq.trans (zi_c (by decide)) (Eq.trans (zi_c (by decide)) (zi_c (by decide))))) ?_
  refine z_go (Gr := Gr) (zc := zc n w) (K := 168) oV_Code_addWith 3 (pc' := 68) (L' := [some (.ref 35), some (.int x1), some (.int x2), some (.int x3), some (.int x4)]) (st' := [.int ((S.1 3 4) + 1), .ref 35, .int (S.1 3 4)]) rfl ?_
  refine z_putI (Gr := Gr) (c := 3) (oV_Code_addWith.1 (68, .putfield 28) (ip_lk_mem rfl)) (oV_Code_addWith.2.1 (28, 2, 4, .int, false) (ip_lk_mem rfl)).1 (by decide) (zo_3 _ _ _ _) (zs_3_4 _ _ _ _ _) (zn_3_4 _ _ _ _) rfl ?_
  exact z_ret (v := (some (.int (S.1 3 4)))) (oV_Code_addWith.1 (71, .ireturn) (ip_lk_mem rfl)) k0
theorem e_Code_addWith {l : Launch} {Gr : zG} {n w : Nat} {d : Nat} {S : zS} {R : Int32 → zS → Prop} {x1 : Int32} {x2 : Int32} {x3 : Int32} {x4 : Int32} (k : zW l Gr (zc n w) 168 M_Code_addWith d 0 [some (.ref 35), some (.int x1), some (.int x2), some (.int x3), some (.int x4)] [] S (fun v S' => ∃ x, v = some (.int x) ∧ R x S')) : zMi l Gr (zc n w) 168 M_Code_addWith d [.ref 35, .int x1, .int x2, .int x3, .int x4] S R := z_mi oM_Code_addWith rfl (Nat.le_of_ble_eq_true rfl) k
set_option maxRecDepth 100000 in
theorem b_Names_stopOf_0 {l : Launch} {Gr : zG} {n w : Nat} {d : Nat} {S : zS} {Q : Option Value → zS → Prop} {x1 : Int32}  (k0 : zW l Gr (zc n w) 168 M_Names_stopOf (d + 1) 2 [some (.ref 40), none, some (.int x1)] [] S Q) : zW l Gr (zc n w) 168 M_Names_stopOf (d + 1) 0 [some (.ref 40), some (.int x1), none] [] S Q := by
  refine z_go (Gr := Gr) (zc := zc n w) (K := 168) oV_Names_stopOf 2 (pc' := 2) (L' := [some (.ref 40), some (.int x1), some (.int x1)]) (st' := []) rfl ?_
  exact (z_forget k0 (And.intro rfl (And.intro rfl trivial)))
set_option maxRecDepth 100000 in
theorem b_Names_stopOf_2 {l : Launch} {Gr : zG} {n w : Nat} {d : Nat} {S : zS} {Q : Option Value → zS → Prop} {x2 : Int32}  (k0 : (S.1 8 1) ≤ x2 → zW l Gr (zc n w) 168 M_Names_stopOf (d + 1) 28 [none, none, some (.int x2)] [] S Q) (k1 : ¬ (S.1 8 1) ≤ x2 → zW l Gr (zc n w) 168 M_Names_stopOf (d + 1) 10 [some (.ref 40), none, some (.int x2)] [] S Q) : zW l Gr (zc n w) 168 M_Names_stopOf (d + 1) 2 [some (.ref 40), none, some (.int x2)] [] S Q := by
  refine z_go (Gr := Gr) (zc := zc n w) (K := 168) oV_Names_stopOf 3 (pc' := 7) (L' := [some (.ref 40), none, some (.int x2)]) (st' := [.int (S.1 8 1), .int x2]) rfl ?_
  exact z_icge (Gr := Gr) (tgt := 28) (oV_Names_stopOf.1 (7, .if_icmp .ge 21) (ip_lk_mem rfl)) (by decide) (fun q => (z_forget (k0 q) (And.intro rfl trivial))) (fun q => (k1 q))
set_option maxRecDepth 100000 in
theorem b_Names_stopOf_28 {l : Launch} {Gr : zG} {n w : Nat} {d : Nat} {S : zS} {Q : Option Value → zS → Prop} {x2 : Int32}  (k0 : Q (some (.int x2)) S) : zW l Gr (zc n w) 168 M_Names_stopOf (d + 1) 28 [none, none, some (.int x2)] [] S Q := by
  refine z_go (Gr := Gr) (zc := zc n w) (K := 168) oV_Names_stopOf 1 (pc' := 29) (L' := [none, none, some (.int x2)]) (st' := [.int x2]) rfl ?_
  exact z_ret (v := (some (.int x2))) (oV_Names_stopOf.1 (29, .ireturn) (ip_lk_mem rfl)) k0
set_option maxRecDepth 100000 in
theorem b_Names_stopOf_10 {l : Launch} {Gr : zG} {n w : Nat} {d : Nat} {S : zS} {Q : Option Value → zS → Prop} {R : Int32 → zS → Prop} (hg : ip_gk (lg_tbl, vwCl, Gr)) {x2 : Int32} (g0 : vp_in x2 4000) (k0 : zMi l Gr (zc n w) 168 M_Words_isNameByte d [.int (S.1 2 ((x2 : Int32).toNatClampNeg))] S R) (k1 : ∀ v S', R v S' → zW l Gr (zc n w) 168 M_Names_stopOf (d + 1) 19 [some (.ref 40), none, some (.int x2)] [.int v] S' Q) : zW l Gr (zc n w) 168 M_Names_stopOf (d + 1) 10 [some (.ref 40), none, some (.int x2)] [] S Q := by
  refine z_go (Gr := Gr) (zc := zc n w) (K := 168) oV_Names_stopOf 3 (pc' := 15) (L' := [some (.ref 40), none, some (.int x2)]) (st' := [.int x2, .ref 34]) rfl ?_
  refine z_bald (Gr := Gr) (c := 2) (oV_Names_stopOf.1 (15, .baload) (ip_lk_mem rfl)) (by decide) rfl g0 ?_
  exact z_callS (Gr := Gr) hg.2.2.1 fT oM_Words_isNameByte (oV_Names_stopOf.1 (16, .invokestatic 70) (ip_lk_mem rfl)) ⟨tt_4 _ (List.mem_of_getElem? (i := 52) rfl) rfl, tt_3 _ (List.mem_of_getElem? (i := 188) rfl) rfl⟩ (As := [.int (S.1 2 ((x2 : Int32).toNatClampNeg))]) rfl (Nat.le_of_ble_eq_true rfl) k0 (fun v S' q => by obtain ⟨x, rfl, q⟩ := q; exact (k1 _ _ q))
set_option maxRecDepth 100000 in
theorem b_Names_stopOf_19 {l : Launch} {Gr : zG} {n w : Nat} {d : Nat} {S : zS} {Q : Option Value → zS → Prop} {x2 : Int32} {s0 : Int32}  (k0 : s0 = 0 → zW l Gr (zc n w) 168 M_Names_stopOf (d + 1) 28 [none, none, some (.int x2)] [] S Q) (k1 : ¬ s0 = 0 → zW l Gr (zc n w) 168 M_Names_stopOf (d + 1) 22 [some (.ref 40), none, some (.int x2)] [] S Q) : zW l Gr (zc n w) 168 M_Names_stopOf (d + 1) 19 [some (.ref 40), none, some (.int x2)] [.int s0] S Q := by
  exact z_ifeq (Gr := Gr) (tgt := 28) (oV_Names_stopOf.1 (19, .ifCond .eq 9) (ip_lk_mem rfl)) (by decide) (fun q => (z_forget (k0 q) (And.intro rfl trivial))) (fun q => (k1 q))
set_option maxRecDepth 100000 in
theorem b_Names_stopOf_22 {l : Launch} {Gr : zG} {n w : Nat} {d : Nat} {S : zS} {Q : Option Value → zS → Prop} {x2 : Int32}  (k0 : zW l Gr (zc n w) 168 M_Names_stopOf (d + 1) 2 [some (.ref 40), none, some (.int (x2 + Int32.ofInt 1))] [] S Q) : zW l Gr (zc n w) 168 M_Names_stopOf (d + 1) 22 [some (.ref 40), none, some (.int x2)] [] S Q := by
  refine z_go (Gr := Gr) (zc := zc n w) (K := 168) oV_Names_stopOf 2 (pc' := 2) (L' := [some (.ref 40), none, some (.int (x2 + Int32.ofInt 1))]) (st' := []) rfl ?_
  exact k0
theorem e_Names_stopOf {l : Launch} {Gr : zG} {n w : Nat} {d : Nat} {S : zS} {R : Int32 → zS → Prop} {x1 : Int32} (k : zW l Gr (zc n w) 168 M_Names_stopOf (d + 1) 0 [some (.ref 40), some (.int x1), none] [] S (fun v S' => ∃ x, v = some (.int x) ∧ R x S')) : zMi l Gr (zc n w) 168 M_Names_stopOf (d + 1) [.ref 40, .int x1] S R := z_mi oM_Names_stopOf rfl (Nat.le_of_ble_eq_true rfl) k
set_option maxRecDepth 100000 in
theorem b_Reader_opens_0 {l : Launch} {Gr : zG} {n w : Nat} {d : Nat} {S : zS} {Q : Option Value → zS → Prop} {x1 : Int32} {x2 : Int32}  (k0 : (S.1 38 2) = x1 → zW l Gr (zc n w) 168 M_Reader_opens (d + 1) 29 [some (.ref 66), none, some (.int x2)] [] S Q) (k1 : ¬ (S.1 38 2) = x1 → zW l Gr (zc n w) 168 M_Reader_opens (d + 1) 11 [some (.ref 66), none, none] [] S Q) : zW l Gr (zc n w) 168 M_Reader_opens (d + 1) 0 [some (.ref 66), some (.int x1), some (.int x2)] [] S Q := by
  refine z_go (Gr := Gr) (zc := zc n w) (K := 168) oV_Reader_opens 4 (pc' := 8) (L' := [some (.ref 66), some (.int x1), some (.int x2)]) (st' := [.int x1, .int (S.1 38 2)]) rfl ?_
  exact z_iceq (Gr := Gr) (tgt := 29) (oV_Reader_opens.1 (8, .if_icmp .eq 21) (ip_lk_mem rfl)) (by decide) (fun q => (z_forget (k0 q) (And.intro rfl (And.intro rfl trivial)))) (fun q => (z_forget (k1 q) (And.intro rfl trivial)))
set_option maxRecDepth 100000 in
theorem b_Reader_opens_29 {l : Launch} {Gr : zG} {n w : Nat} {d : Nat} {S : zS} {Q : Option Value → zS → Prop} {x2 : Int32}  (k0 : x2 < 30 → zW l Gr (zc n w) 168 M_Reader_opens (d + 1) 50 [some (.ref 66), none, none] [] S Q) (k1 : ¬ x2 < 30 → zW l Gr (zc n w) 168 M_Reader_opens (d + 1) 35 [some (.ref 66), none, none] [] S Q) : zW l Gr (zc n w) 168 M_Reader_opens (d + 1) 29 [some (.ref 66), none, some (.int x2)] [] S Q := by
  refine z_go (Gr := Gr) (zc := zc n w) (K := 168) oV_Reader_opens 2 (pc' := 32) (L' := [some (.ref 66), none, some (.int x2)]) (st' := [.int 30, .int x2]) rfl ?_
  exact z_iclt (Gr := Gr) (tgt := 50) (oV_Reader_opens.1 (32, .if_icmp .lt 18) (ip_lk_mem rfl)) (by decide) (fun q => (z_forget (k0 q) (And.intro rfl trivial))) (fun q => (z_forget (k1 q) (And.intro rfl trivial)))
set_option maxRecDepth 100000 in
theorem b_Reader_opens_11 {l : Launch} {Gr : zG} {n w : Nat} {d : Nat} {S : zS} {Q : Option Value → zS → Prop} {R : zS → Prop} (hg : ip_gk (lg_tbl, vwCl, Gr))   (k0 : zMv l Gr (zc n w) 168 M_Code_tell d [.ref 35, .int 1, .int (S.1 38 3)] S R) (k1 : ∀ S', R S' → zW l Gr (zc n w) 168 M_Reader_opens (d + 1) 26 [some (.ref 66), none, none] [] S' Q) : zW l Gr (zc n w) 168 M_Reader_opens (d + 1) 11 [some (.ref 66), none, none] [] S Q := by
  refine z_go (Gr := Gr) (zc := zc n w) (K := 168) oV_Reader_opens 6 (pc' := 23) (L' := [some (.ref 66), none, none]) (st' := [.int (S.1 38 3), .int 1, .ref 35]) rfl ?_
  exact z_callV (Gr := Gr) hg.2.2.1 fT oM_Code_tell (oV_Reader_opens.1 (23, .invokevirtual 154) (ip_lk_mem rfl)) ⟨tt_4 _ (List.mem_of_getElem? (i := 15) rfl) rfl, tt_4 _ (List.mem_of_getElem? (i := 16) rfl) rfl, tt_4 _ (List.mem_of_getElem? (i := 17) rfl) rfl⟩ (c := 3) (ci := 2) (As := [.int 1, .int (S.1 38 3)]) rfl rfl rfl (by decide) rfl (Nat.le_of_ble_eq_true rfl) k0 (fun v S' q => by obtain ⟨rfl, q⟩ := q; exact (k1 _ q))
set_option maxRecDepth 100000 in
theorem b_Reader_opens_50 {l : Launch} {Gr : zG} {n w : Nat} {d : Nat} {S : zS} {Q : Option Value → zS → Prop}   (k0 : ¬ (S.1 3 5) = 0 → zW l Gr (zc n w) 168 M_Reader_opens (d + 1) 67 [some (.ref 66), none, none] [] S Q) (k1 : (S.1 3 5) = 0 → zW l Gr (zc n w) 168 M_Reader_opens (d + 1) 60 [some (.ref 66), none, none] [] S Q) : zW l Gr (zc n w) 168 M_Reader_opens (d + 1) 50 [some (.ref 66), none, none] [] S Q := by
  refine z_go (Gr := Gr) (zc := zc n w) (K := 168) oV_Reader_opens 3 (pc' := 57) (L' := [some (.ref 66), none, none]) (st' := [.int (S.1 3 5)]) rfl ?_
  exact z_ifne (Gr := Gr) (tgt := 67) (oV_Reader_opens.1 (57, .ifCond .ne 10) (ip_lk_mem rfl)) (by decide) (fun q => (k0 q)) (fun q => (k1 q))
set_option maxRecDepth 100000 in
theorem b_Reader_opens_35 {l : Launch} {Gr : zG} {n w : Nat} {d : Nat} {S : zS} {Q : Option Value → zS → Prop} {R : zS → Prop} (hg : ip_gk (lg_tbl, vwCl, Gr))   (k0 : zMv l Gr (zc n w) 168 M_Code_tell d [.ref 35, .int 3, .int (S.1 38 3)] S R) (k1 : ∀ S', R S' → zW l Gr (zc n w) 168 M_Reader_opens (d + 1) 50 [some (.ref 66), none, none] [] S' Q) : zW l Gr (zc n w) 168 M_Reader_opens (d + 1) 35 [some (.ref 66), none, none] [] S Q := by
  refine z_go (Gr := Gr) (zc := zc n w) (K := 168) oV_Reader_opens 6 (pc' := 47) (L' := [some (.ref 66), none, none]) (st' := [.int (S.1 38 3), .int 3, .ref 35]) rfl ?_
  exact z_callV (Gr := Gr) hg.2.2.1 fT oM_Code_tell (oV_Reader_opens.1 (47, .invokevirtual 154) (ip_lk_mem rfl)) ⟨tt_4 _ (List.mem_of_getElem? (i := 15) rfl) rfl, tt_4 _ (List.mem_of_getElem? (i := 16) rfl) rfl, tt_4 _ (List.mem_of_getElem? (i := 17) rfl) rfl⟩ (c := 3) (ci := 2) (As := [.int 3, .int (S.1 38 3)]) rfl rfl rfl (by decide) rfl (Nat.le_of_ble_eq_true rfl) k0 (fun v S' q => by obtain ⟨rfl, q⟩ := q; exact (k1 _ q))
set_option maxRecDepth 100000 in
theorem b_Reader_opens_26 {l : Launch} {Gr : zG} {n w : Nat} {d : Nat} {S : zS} {Q : Option Value → zS → Prop}   (k0 : zW l Gr (zc n w) 168 M_Reader_opens (d + 1) 50 [some (.ref 66), none, none] [] S Q) : zW l Gr (zc n w) 168 M_Reader_opens (d + 1) 26 [some (.ref 66), none, none] [] S Q := by
  refine z_go (Gr := Gr) (zc := zc n w) (K := 168) oV_Reader_opens 1 (pc' := 50) (L' := [some (.ref 66), none, none]) (st' := []) rfl ?_
  exact k0
set_option maxRecDepth 100000 in
theorem b_Reader_opens_67 {l : Launch} {Gr : zG} {n w : Nat} {d : Nat} {S : zS} {Q : Option Value → zS → Prop}   (k0 : ¬ (S.1 3 5) = 0 → zW l Gr (zc n w) 168 M_Reader_opens (d + 1) 81 [none, none, none] [] S Q) (k1 : (S.1 3 5) = 0 → zW l Gr (zc n w) 168 M_Reader_opens (d + 1) 77 [none, none, none] [] S Q) : zW l Gr (zc n w) 168 M_Reader_opens (d + 1) 67 [some (.ref 66), none, none] [] S Q := by
  refine z_go (Gr := Gr) (zc := zc n w) (K := 168) oV_Reader_opens 3 (pc' := 74) (L' := [some (.ref 66), none, none]) (st' := [.int (S.1 3 5)]) rfl ?_
  exact z_ifne (Gr := Gr) (tgt := 81) (oV_Reader_opens.1 (74, .ifCond .ne 7) (ip_lk_mem rfl)) (by decide) (fun q => (z_forget (k0 q) trivial)) (fun q => (z_forget (k1 q) trivial))
set_option maxRecDepth 100000 in
theorem b_Reader_opens_60 {l : Launch} {Gr : zG} {n w : Nat} {d : Nat} {S : zS} {Q : Option Value → zS → Prop} {R : zS → Prop} (hg : ip_gk (lg_tbl, vwCl, Gr))   (k0 : zMv l Gr (zc n w) 168 M_Words_advance d [.ref 70] S R) (k1 : ∀ S', R S' → zW l Gr (zc n w) 168 M_Reader_opens (d + 1) 67 [some (.ref 66), none, none] [] S' Q) : zW l Gr (zc n w) 168 M_Reader_opens (d + 1) 60 [some (.ref 66), none, none] [] S Q := by
  refine z_go (Gr := Gr) (zc := zc n w) (K := 168) oV_Reader_opens 2 (pc' := 64) (L' := [some (.ref 66), none, none]) (st' := [.ref 70]) rfl ?_
  exact z_callV (Gr := Gr) hg.2.2.1 fT oM_Words_advance (oV_Reader_opens.1 (64, .invokevirtual 79) (ip_lk_mem rfl)) ⟨tt_4 _ (List.mem_of_getElem? (i := 10) rfl) rfl, tt_3 _ (List.mem_of_getElem? (i := 177) rfl) rfl, tt_3 _ (List.mem_of_getElem? (i := 178) rfl) rfl⟩ (c := 38) (ci := 10) (As := []) rfl rfl rfl (by decide) rfl (Nat.le_of_ble_eq_true rfl) k0 (fun v S' q => by obtain ⟨rfl, q⟩ := q; exact (k1 _ q))
set_option maxRecDepth 100000 in
theorem b_Reader_opens_81 {l : Launch} {Gr : zG} {n w : Nat} {d : Nat} {S : zS} {Q : Option Value → zS → Prop}   (k0 : zW l Gr (zc n w) 168 M_Reader_opens (d + 1) 82 [none, none, none] [.int 0] S Q) : zW l Gr (zc n w) 168 M_Reader_opens (d + 1) 81 [none, none, none] [] S Q := by
  refine z_go (Gr := Gr) (zc := zc n w) (K := 168) oV_Reader_opens 1 (pc' := 82) (L' := [none, none, none]) (st' := [.int 0]) rfl ?_
  exact k0
set_option maxRecDepth 100000 in
theorem b_Reader_opens_77 {l : Launch} {Gr : zG} {n w : Nat} {d : Nat} {S : zS} {Q : Option Value → zS → Prop}   (k0 : zW l Gr (zc n w) 168 M_Reader_opens (d + 1) 82 [none, none, none] [.int 1] S Q) : zW l Gr (zc n w) 168 M_Reader_opens (d + 1) 77 [none, none, none] [] S Q := by
  refine z_go (Gr := Gr) (zc := zc n w) (K := 168) oV_Reader_opens 2 (pc' := 82) (L' := [none, none, none]) (st' := [.int 1]) rfl ?_
  exact k0
set_option maxRecDepth 100000 in
theorem b_Reader_opens_82 {l : Launch} {Gr : zG} {n w : Nat} {d : Nat} {S : zS} {Q : Option Value → zS → Prop} {s0 : Int32}  (k0 : Q (some (.int s0)) S) : zW l Gr (zc n w) 168 M_Reader_opens (d + 1) 82 [none, none, none] [.int s0] S Q := by
  exact z_ret (v := (some (.int s0))) (oV_Reader_opens.1 (82, .ireturn) (ip_lk_mem rfl)) k0
theorem e_Reader_opens {l : Launch} {Gr : zG} {n w : Nat} {d : Nat} {S : zS} {R : Int32 → zS → Prop} {x1 : Int32} {x2 : Int32} (k : zW l Gr (zc n w) 168 M_Reader_opens (d + 1) 0 [some (.ref 66), some (.int x1), some (.int x2)] [] S (fun v S' => ∃ x, v = some (.int x) ∧ (x = 0 ∨ x = 1) ∧ R x S')) : zMi l Gr (zc n w) 168 M_Reader_opens (d + 1) [.ref 66, .int x1, .int x2] S R := z_mb oM_Reader_opens rfl (Nat.le_of_ble_eq_true rfl) k
set_option maxRecDepth 100000 in
theorem b_Reader_readChoice_0 {l : Launch} {Gr : zG} {n w : Nat} {d : Nat} {S : zS} {Q : Option Value → zS → Prop} {R : zS → Prop} (hg : ip_gk (lg_tbl, vwCl, Gr)) {x1 : Int32}  (k0 : zMv l Gr (zc n w) 168 M_Reader_readFactor d [.ref 66, .int x1] S R) (k1 : ∀ S', R S' → zW l Gr (zc n w) 168 M_Reader_readChoice (d + 1) 10 [some (.ref 66), some (.int x1), some (.int (S.1 34 9)), none, none] [] S' Q) : zW l Gr (zc n w) 168 M_Reader_readChoice (d + 1) 0 [some (.ref 66), some (.int x1), none, none, none] [] S Q := by
  refine z_go (Gr := Gr) (zc := zc n w) (K := 168) oV_Reader_readChoice 5 (pc' := 7) (L' := [some (.ref 66), some (.int x1), some (.int (S.1 34 9)), none, none]) (st' := [.int x1, .ref 66]) rfl ?_
  exact z_callV (Gr := Gr) hg.2.2.1 fT oM_Reader_readFactor (oV_Reader_readChoice.1 (7, .invokevirtual 175) (ip_lk_mem rfl)) ⟨tt_4 _ (List.mem_of_getElem? (i := 86) rfl) rfl, tt_4 _ (List.mem_of_getElem? (i := 88) rfl) rfl, fS_Reader_readFactor⟩ (c := 34) (ci := 8) (As := [.int x1]) rfl rfl rfl (by decide) rfl (Nat.le_of_ble_eq_true rfl) k0 (fun v S' q => by obtain ⟨rfl, q⟩ := q; exact (k1 _ q))
set_option maxRecDepth 100000 in
theorem b_Reader_readChoice_10 {l : Launch} {Gr : zG} {n w : Nat} {d : Nat} {S : zS} {Q : Option Value → zS → Prop} {x1 : Int32} {x2 : Int32}  (k0 : zW l Gr (zc n w) 168 M_Reader_readChoice (d + 1) 12 [some (.ref 66), some (.int x1), some (.int x2), some (.int 0), none] [] S Q) : zW l Gr (zc n w) 168 M_Reader_readChoice (d + 1) 10 [some (.ref 66), some (.int x1), some (.int x2), none, none] [] S Q := by
  refine z_go (Gr := Gr) (zc := zc n w) (K := 168) oV_Reader_readChoice 2 (pc' := 12) (L' := [some (.ref 66), some (.int x1), some (.int x2), some (.int 0), none]) (st' := []) rfl ?_
  exact k0
set_option maxRecDepth 100000 in
theorem b_Reader_readChoice_12 {l : Launch} {Gr : zG} {n w : Nat} {d : Nat} {S : zS} {Q : Option Value → zS → Prop} {x1 : Int32} {x2 : Int32} {x3 : Int32}  (k0 : 4000 ≤ x3 → zW l Gr (zc n w) 168 M_Reader_readChoice (d + 1) 141 [none, none, none, none, none] [] S Q) (k1 : ¬ 4000 ≤ x3 → zW l Gr (zc n w) 168 M_Reader_readChoice (d + 1) 19 [some (.ref 66), some (.int x1), some (.int x2), some (.int x3), none] [] S Q) : zW l Gr (zc n w) 168 M_Reader_readChoice (d + 1) 12 [some (.ref 66), some (.int x1), some (.int x2), some (.int x3), none] [] S Q := by
  refine z_go (Gr := Gr) (zc := zc n w) (K := 168) oV_Reader_readChoice 2 (pc' := 16) (L' := [some (.ref 66), some (.int x1), some (.int x2), some (.int x3), none]) (st' := [.int 4000, .int x3]) rfl ?_
  exact z_icge (Gr := Gr) (tgt := 141) (oV_Reader_readChoice.1 (16, .if_icmp .ge 125) (ip_lk_mem rfl)) (by decide) (fun q => (z_forget (k0 q) trivial)) (fun q => (k1 q))
set_option maxRecDepth 100000 in
theorem b_Reader_readChoice_141 {l : Launch} {Gr : zG} {n w : Nat} {d : Nat} {S : zS} {Q : Option Value → zS → Prop}   (k0 : Q none S) : zW l Gr (zc n w) 168 M_Reader_readChoice (d + 1) 141 [none, none, none, none, none] [] S Q := by
  exact z_ret (v := none) (oV_Reader_readChoice.1 (141, .return_) (ip_lk_mem rfl)) k0
set_option maxRecDepth 100000 in
theorem b_Reader_readChoice_19 {l : Launch} {Gr : zG} {n w : Nat} {d : Nat} {S : zS} {Q : Option Value → zS → Prop} {x1 : Int32} {x2 : Int32} {x3 : Int32}  (k0 : ¬ (S.1 3 5) = 0 → zW l Gr (zc n w) 168 M_Reader_readChoice (d + 1) 141 [none, none, none, none, none] [] S Q) (k1 : (S.1 3 5) = 0 → zW l Gr (zc n w) 168 M_Reader_readChoice (d + 1) 29 [some (.ref 66), some (.int x1), some (.int x2), some (.int x3), none] [] S Q) : zW l Gr (zc n w) 168 M_Reader_readChoice (d + 1) 19 [some (.ref 66), some (.int x1), some (.int x2), some (.int x3), none] [] S Q := by
  refine z_go (Gr := Gr) (zc := zc n w) (K := 168) oV_Reader_readChoice 3 (pc' := 26) (L' := [some (.ref 66), some (.int x1), some (.int x2), some (.int x3), none]) (st' := [.int (S.1 3 5)]) rfl ?_
  exact z_ifne (Gr := Gr) (tgt := 141) (oV_Reader_readChoice.1 (26, .ifCond .ne 115) (ip_lk_mem rfl)) (by decide) (fun q => (z_forget (k0 q) trivial)) (fun q => (k1 q))
set_option maxRecDepth 100000 in
theorem b_Reader_readChoice_29 {l : Launch} {Gr : zG} {n w : Nat} {d : Nat} {S : zS} {Q : Option Value → zS → Prop} {R : Int32 → zS → Prop} (hg : ip_gk (lg_tbl, vwCl, Gr)) {x1 : Int32} {x2 : Int32} {x3 : Int32}  (k0 : zMi l Gr (zc n w) 168 M_Code_operatorOf d [.int (S.1 38 2)] S R) (k1 : ∀ v S', R v S' → zW l Gr (zc n w) 168 M_Reader_readChoice (d + 1) 39 [some (.ref 66), some (.int x1), some (.int x2), some (.int x3), none] [.int v] S' Q) : zW l Gr (zc n w) 168 M_Reader_readChoice (d + 1) 29 [some (.ref 66), some (.int x1), some (.int x2), some (.int x3), none] [] S Q := by
  refine z_go (Gr := Gr) (zc := zc n w) (K := 168) oV_Reader_readChoice 3 (pc' := 36) (L' := [some (.ref 66), some (.int x1), some (.int x2), some (.int x3), none]) (st' := [.int (S.1 38 2)]) rfl ?_
  exact z_callS (Gr := Gr) hg.2.2.1 fT oM_Code_operatorOf (oV_Reader_readChoice.1 (36, .invokestatic 178) (ip_lk_mem rfl)) ⟨tt_4 _ (List.mem_of_getElem? (i := 112) rfl) rfl, tt_4 _ (List.mem_of_getElem? (i := 113) rfl) rfl⟩ (As := [.int (S.1 38 2)]) rfl (Nat.le_of_ble_eq_true rfl) k0 (fun v S' q => by obtain ⟨x, rfl, q⟩ := q; exact (k1 _ _ q))
set_option maxRecDepth 100000 in
theorem b_Reader_readChoice_39 {l : Launch} {Gr : zG} {n w : Nat} {d : Nat} {S : zS} {Q : Option Value → zS → Prop} {R : Int32 → zS → Prop} (hg : ip_gk (lg_tbl, vwCl, Gr)) {x1 : Int32} {x2 : Int32} {x3 : Int32} {s0 : Int32}  (k0 : zMi l Gr (zc n w) 168 M_Code_rank d [.int s0] S R) (k1 : ∀ v S', R v S' → zW l Gr (zc n w) 168 M_Reader_readChoice (d + 1) 48 [some (.ref 66), some (.int x1), some (.int x2), some (.int x3), some (.int s0)] [.int v, .int x2, .ref 66] S' Q) : zW l Gr (zc n w) 168 M_Reader_readChoice (d + 1) 39 [some (.ref 66), some (.int x1), some (.int x2), some (.int x3), none] [.int s0] S Q := by
  refine z_go (Gr := Gr) (zc := zc n w) (K := 168) oV_Reader_readChoice 4 (pc' := 45) (L' := [some (.ref 66), some (.int x1), some (.int x2), some (.int x3), some (.int s0)]) (st' := [.int s0, .int x2, .ref 66]) rfl ?_
  exact z_callS (Gr := Gr) hg.2.2.1 fT oM_Code_rank (oV_Reader_readChoice.1 (45, .invokestatic 181) (ip_lk_mem rfl)) ⟨tt_4 _ (List.mem_of_getElem? (i := 115) rfl) rfl, tt_4 _ (List.mem_of_getElem? (i := 116) rfl) rfl⟩ (As := [.int s0]) rfl (Nat.le_of_ble_eq_true rfl) k0 (fun v S' q => by obtain ⟨x, rfl, q⟩ := q; exact (k1 _ _ q))
set_option maxRecDepth 100000 in
theorem b_Reader_readChoice_48 {l : Launch} {Gr : zG} {n w : Nat} {d : Nat} {S : zS} {Q : Option Value → zS → Prop} {R : zS → Prop} (hg : ip_gk (lg_tbl, vwCl, Gr)) {x1 : Int32} {x2 : Int32} {x3 : Int32} {x4 : Int32} {s0 : Int32} {s1 : Int32}  (k0 : zMv l Gr (zc n w) 168 M_Reader_settle d [.ref 66, .int s1, .int s0] S R) (k1 : ∀ S', R S' → zW l Gr (zc n w) 168 M_Reader_readChoice (d + 1) 51 [some (.ref 66), some (.int x1), some (.int x2), some (.int x3), some (.int x4)] [] S' Q) : zW l Gr (zc n w) 168 M_Reader_readChoice (d + 1) 48 [some (.ref 66), some (.int x1), some (.int x2), some (.int x3), some (.int x4)] [.int s0, .int s1, .ref 66] S Q := by
  exact z_callV (Gr := Gr) hg.2.2.1 fT oM_Reader_settle (oV_Reader_readChoice.1 (48, .invokevirtual 184) (ip_lk_mem rfl)) ⟨tt_4 _ (List.mem_of_getElem? (i := 120) rfl) rfl, tt_4 _ (List.mem_of_getElem? (i := 122) rfl) rfl, fS_Reader_settle⟩ (c := 34) (ci := 8) (As := [.int s1, .int s0]) rfl rfl rfl (by decide) rfl (Nat.le_of_ble_eq_true rfl) k0 (fun v S' q => by obtain ⟨rfl, q⟩ := q; exact (k1 _ q))
set_option maxRecDepth 100000 in
theorem b_Reader_readChoice_51 {l : Launch} {Gr : zG} {n w : Nat} {d : Nat} {S : zS} {Q : Option Value → zS → Prop} {x1 : Int32} {x2 : Int32} {x3 : Int32} {x4 : Int32}  (k0 : x4 = (-1) → zW l Gr (zc n w) 168 M_Reader_readChoice (d + 1) 69 [none, none, none, none, none] [] S Q) (k1 : ¬ x4 = (-1) → zW l Gr (zc n w) 168 M_Reader_readChoice (d + 1) 57 [some (.ref 66), some (.int x1), some (.int x2), some (.int x3), some (.int x4)] [] S Q) : zW l Gr (zc n w) 168 M_Reader_readChoice (d + 1) 51 [some (.ref 66), some (.int x1), some (.int x2), some (.int x3), some (.int x4)] [] S Q := by
  refine z_go (Gr := Gr) (zc := zc n w) (K := 168) oV_Reader_readChoice 2 (pc' := 54) (L' := [some (.ref 66), some (.int x1), some (.int x2), some (.int x3), some (.int x4)]) (st' := [.int (-1), .int x4]) rfl ?_
  exact z_iceq (Gr := Gr) (tgt := 69) (oV_Reader_readChoice.1 (54, .if_icmp .eq 15) (ip_lk_mem rfl)) (by decide) (fun q => (z_forget (k0 q) trivial)) (fun q => (k1 q))
set_option maxRecDepth 100000 in
theorem b_Reader_readChoice_69 {l : Launch} {Gr : zG} {n w : Nat} {d : Nat} {S : zS} {Q : Option Value → zS → Prop}   (k0 : Q none S) : zW l Gr (zc n w) 168 M_Reader_readChoice (d + 1) 69 [none, none, none, none, none] [] S Q := by
  exact z_ret (v := none) (oV_Reader_readChoice.1 (69, .return_) (ip_lk_mem rfl)) k0
set_option maxRecDepth 100000 in
theorem b_Reader_readChoice_57 {l : Launch} {Gr : zG} {n w : Nat} {d : Nat} {S : zS} {Q : Option Value → zS → Prop} {x1 : Int32} {x2 : Int32} {x3 : Int32} {x4 : Int32}  (k0 : (S.1 34 9) < 310 → zW l Gr (zc n w) 168 M_Reader_readChoice (d + 1) 70 [some (.ref 66), some (.int x1), some (.int x2), some (.int x3), some (.int x4)] [] S Q) (k1 : ¬ (S.1 34 9) < 310 → zW l Gr (zc n w) 168 M_Reader_readChoice (d + 1) 69 [none, none, none, none, none] [] S Q) : zW l Gr (zc n w) 168 M_Reader_readChoice (d + 1) 57 [some (.ref 66), some (.int x1), some (.int x2), some (.int x3), some (.int x4)] [] S Q := by
  refine z_go (Gr := Gr) (zc := zc n w) (K := 168) oV_Reader_readChoice 5 (pc' := 66) (L' := [some (.ref 66), some (.int x1), some (.int x2), some (.int x3), some (.int x4)]) (st' := [.int 310, .int (S.1 34 9)]) rfl ?_
  exact z_iclt (Gr := Gr) (tgt := 70) (oV_Reader_readChoice.1 (66, .if_icmp .lt 4) (ip_lk_mem rfl)) (by decide) (fun q => (k0 q)) (fun q => (z_forget (k1 q) trivial))
set_option maxRecDepth 100000 in
theorem b_Reader_readChoice_70 {l : Launch} {Gr : zG} {n w : Nat} {d : Nat} {S : zS} {Q : Option Value → zS → Prop} {R : zS → Prop} (hg : ip_gk (lg_tbl, vwCl, Gr)) {x1 : Int32} {x2 : Int32} {x3 : Int32} {x4 : Int32} (g0 : vp_in (S.1 34 9) 310) (k0 : zMv l Gr (zc n w) 168 M_Words_advance d [.ref 70] (zi (zi S 35 (((S.1 34 9) : Int32).toNatClampNeg) x4) 36 (((S.1 34 9) : Int32).toNatClampNeg) (S.1 38 3)) R) (k1 : ∀ S', R S' → zW l Gr (zc n w) 168 M_Reader_readChoice (d + 1) 104 [some (.ref 66), some (.int x1), some (.int x2), some (.int x3), none] [] S' Q) : zW l Gr (zc n w) 168 M_Reader_readChoice (d + 1) 70 [some (.ref 66), some (.int x1), some (.int x2), some (.int x3), some (.int x4)] [] S Q := by
  refine z_go (Gr := Gr) (zc := zc n w) (K := 168) oV_Reader_readChoice 5 (pc' := 80) (L' := [some (.ref 66), some (.int x1), some (.int x2), some (.int x3), some (.int x4)]) (st' := [.int x4, .int (S.1 34 9), .ref 67]) rfl ?_
  refine z_iast (Gr := Gr) (c := 35) (oV_Reader_readChoice.1 (80, .iastore) (ip_lk_mem rfl)) (by decide) (fun _ => rfl) g0 ?_
  refine z_go (Gr := Gr) (zc := zc n w) (K := 168) oV_Reader_readChoice 3 (pc' := 86) (L' := [some (.ref 66), some (.int x1), some (.int x2), some (.int x3), some (.int x4)]) (st' := [.ref 66, .ref 68]) rfl ?_
  refine z_getI (Gr := Gr) (c := 34) (oV_Reader_readChoice.1 (86, .getfield 51) (ip_lk_mem rfl)) (oV_Reader_readChoice.2.1 (51, 8, 9, .int, false) (ip_lk_mem rfl)).1 (by decide) (zo_34 _ _ _ _) (zg_34_9 _ _ _ _) (zi_c (by decide)) ?_
  refine z_go (Gr := Gr) (zc := zc n w) (K := 168) oV_Reader_readChoice 2 (pc' := 93) (L' := [some (.ref 66), some (.int x1), some (.int x2), some (.int x3), some (.int x4)]) (st' := [.ref 70, .int (S.1 34 9), .ref 68]) rfl ?_
  refine z_getI (Gr := Gr) (c := 38) (oV_Reader_readChoice.1 (93, .getfield 130) (ip_lk_mem rfl)) (oV_Reader_readChoice.2.1 (130, 10, 3, .int, false) (ip_lk_mem rfl)).1 (by decide) (zo_38 _ _ _ _) (zg_38_3 _ _ _ _) (zi_c (by decide)) ?_
  refine z_iast (Gr := Gr) (c := 36) (oV_Reader_readChoice.1 (96, .iastore) (ip_lk_mem rfl)) (by decide) (fun _ => rfl) g0 ?_
  refine z_go (Gr := Gr) (zc := zc n w) (K := 168) oV_Reader_readChoice 2 (pc' := 101) (L' := [some (.ref 66), some (.int x1), some (.int x2), some (.int x3), some (.int x4)]) (st' := [.ref 70]) rfl ?_
  exact z_callV (Gr := Gr) hg.2.2.1 fT oM_Words_advance (oV_Reader_readChoice.1 (101, .invokevirtual 79) (ip_lk_mem rfl)) ⟨tt_4 _ (List.mem_of_getElem? (i := 10) rfl) rfl, tt_3 _ (List.mem_of_getElem? (i := 177) rfl) rfl, tt_3 _ (List.mem_of_getElem? (i := 178) rfl) rfl⟩ (c := 38) (ci := 10) (As := []) rfl rfl rfl (by decide) rfl (Nat.le_of_ble_eq_true rfl) k0 (fun v S' q => by obtain ⟨rfl, q⟩ := q; exact (z_forget (k1 _ q) (And.intro rfl (And.intro rfl (And.intro rfl (And.intro rfl trivial))))))
set_option maxRecDepth 100000 in
theorem b_Reader_readChoice_104 {l : Launch} {Gr : zG} {n w : Nat} {d : Nat} {S : zS} {Q : Option Value → zS → Prop} {R : zS → Prop} (hg : ip_gk (lg_tbl, vwCl, Gr)) {x1 : Int32} {x2 : Int32} {x3 : Int32} (g0 : vp_in (S.1 34 9) 310) (k0 : zMv l Gr (zc n w) 168 M_Reader_readFactor d [.ref 66, .int x1] (zi (zi S 37 (((S.1 34 9) : Int32).toNatClampNeg) (S.1 38 3)) 34 9 ((S.1 34 9) + 1)) R) (k1 : ∀ S', R S' → zW l Gr (zc n w) 168 M_Reader_readChoice (d + 1) 135 [some (.ref 66), some (.int x1), some (.int x2), some (.int x3), none] [] S' Q) : zW l Gr (zc n w) 168 M_Reader_readChoice (d + 1) 104 [some (.ref 66), some (.int x1), some (.int x2), some (.int x3), none] [] S Q := by
  refine z_go (Gr := Gr) (zc := zc n w) (K := 168) oV_Reader_readChoice 7 (pc' := 119) (L' := [some (.ref 66), some (.int x1), some (.int x2), some (.int x3), none]) (st' := [.int (S.1 38 3), .int (S.1 34 9), .ref 69]) rfl ?_
  refine z_iast (Gr := Gr) (c := 37) (oV_Reader_readChoice.1 (119, .iastore) (ip_lk_mem rfl)) (by decide) (fun _ => rfl) g0 ?_
  refine z_go (Gr := Gr) (zc := zc n w) (K := 168) oV_Reader_readChoice 2 (pc' := 122) (L' := [some (.ref 66), some (.int x1), some (.int x2), some (.int x3), none]) (st' := [.ref 66, .ref 66]) rfl ?_
  refine z_getI (Gr := Gr) (c := 34) (oV_Reader_readChoice.1 (122, .getfield 51) (ip_lk_mem rfl)) (oV_Reader_readChoice.2.1 (51, 8, 9, .int, false) (ip_lk_mem rfl)).1 (by decide) (zo_34 _ _ _ _) (zg_34_9 _ _ _ _) (zi_c (by decide)) ?_
  refine z_go (Gr := Gr) (zc := zc n w) (K := 168) oV_Reader_readChoice 2 (pc' := 127) (L' := [some (.ref 66), some (.int x1), some (.int x2), some (.int x3), none]) (st' := [.int ((S.1 34 9) + 1), .ref 66]) rfl ?_
  refine z_putI (Gr := Gr) (c := 34) (oV_Reader_readChoice.1 (127, .putfield 51) (ip_lk_mem rfl)) (oV_Reader_readChoice.2.1 (51, 8, 9, .int, false) (ip_lk_mem rfl)).1 (by decide) (zo_34 _ _ _ _) (zs_34_9 _ _ _ _ _) (zn_34_9 _ _ _ _) rfl ?_
  refine z_go (Gr := Gr) (zc := zc n w) (K := 168) oV_Reader_readChoice 2 (pc' := 132) (L' := [some (.ref 66), some (.int x1), some (.int x2), some (.int x3), none]) (st' := [.int x1, .ref 66]) rfl ?_
  exact z_callV (Gr := Gr) hg.2.2.1 fT oM_Reader_readFactor (oV_Reader_readChoice.1 (132, .invokevirtual 175) (ip_lk_mem rfl)) ⟨tt_4 _ (List.mem_of_getElem? (i := 86) rfl) rfl, tt_4 _ (List.mem_of_getElem? (i := 88) rfl) rfl, fS_Reader_readFactor⟩ (c := 34) (ci := 8) (As := [.int x1]) rfl rfl rfl (by decide) rfl (Nat.le_of_ble_eq_true rfl) k0 (fun v S' q => by obtain ⟨rfl, q⟩ := q; exact (k1 _ q))
set_option maxRecDepth 100000 in
theorem b_Reader_readChoice_135 {l : Launch} {Gr : zG} {n w : Nat} {d : Nat} {S : zS} {Q : Option Value → zS → Prop} {x1 : Int32} {x2 : Int32} {x3 : Int32}  (k0 : zW l Gr (zc n w) 168 M_Reader_readChoice (d + 1) 12 [some (.ref 66), some (.int x1), some (.int x2), some (.int (x3 + Int32.ofInt 1)), none] [] S Q) : zW l Gr (zc n w) 168 M_Reader_readChoice (d + 1) 135 [some (.ref 66), some (.int x1), some (.int x2), some (.int x3), none] [] S Q := by
  refine z_go (Gr := Gr) (zc := zc n w) (K := 168) oV_Reader_readChoice 2 (pc' := 12) (L' := [some (.ref 66), some (.int x1), some (.int x2), some (.int (x3 + Int32.ofInt 1)), none]) (st' := []) rfl ?_
  exact k0
theorem e_Reader_readChoice {l : Launch} {Gr : zG} {n w : Nat} {d : Nat} {S : zS} {R : zS → Prop} {x1 : Int32} (k : zW l Gr (zc n w) 168 M_Reader_readChoice (d + 1) 0 [some (.ref 66), some (.int x1), none, none, none] [] S (fun v S' => v = none ∧ R S')) : zMv l Gr (zc n w) 168 M_Reader_readChoice (d + 1) [.ref 66, .int x1] S R := z_mv oM_Reader_readChoice rfl (Nat.le_of_ble_eq_true rfl) k
set_option maxRecDepth 100000 in
theorem b_Words_isDigit_0 {l : Launch} {Gr : zG} {n w : Nat} {d : Nat} {S : zS} {Q : Option Value → zS → Prop} {x0 : Int32}  (k0 : x0 < 48 → zW l Gr (zc n w) 168 M_Words_isDigit d 16 [none] [] S Q) (k1 : ¬ x0 < 48 → zW l Gr (zc n w) 168 M_Words_isDigit d 6 [some (.int x0)] [] S Q) : zW l Gr (zc n w) 168 M_Words_isDigit d 0 [some (.int x0)] [] S Q := by
  refine z_go (Gr := Gr) (zc := zc n w) (K := 168) oV_Words_isDigit 2 (pc' := 3) (L' := [some (.int x0)]) (st' := [.int 48, .int x0]) rfl ?_
  exact z_iclt (Gr := Gr) (tgt := 16) (oV_Words_isDigit.1 (3, .if_icmp .lt 13) (ip_lk_mem rfl)) (by decide) (fun q => (z_forget (k0 q) trivial)) (fun q => (k1 q))
set_option maxRecDepth 100000 in
theorem b_Words_isDigit_16 {l : Launch} {Gr : zG} {n w : Nat} {d : Nat} {S : zS} {Q : Option Value → zS → Prop}   (k0 : zW l Gr (zc n w) 168 M_Words_isDigit d 17 [none] [.int 0] S Q) : zW l Gr (zc n w) 168 M_Words_isDigit d 16 [none] [] S Q := by
  refine z_go (Gr := Gr) (zc := zc n w) (K := 168) oV_Words_isDigit 1 (pc' := 17) (L' := [none]) (st' := [.int 0]) rfl ?_
  exact k0
set_option maxRecDepth 100000 in
theorem b_Words_isDigit_6 {l : Launch} {Gr : zG} {n w : Nat} {d : Nat} {S : zS} {Q : Option Value → zS → Prop} {x0 : Int32}  (k0 : 57 < x0 → zW l Gr (zc n w) 168 M_Words_isDigit d 16 [none] [] S Q) (k1 : ¬ 57 < x0 → zW l Gr (zc n w) 168 M_Words_isDigit d 12 [none] [] S Q) : zW l Gr (zc n w) 168 M_Words_isDigit d 6 [some (.int x0)] [] S Q := by
  refine z_go (Gr := Gr) (zc := zc n w) (K := 168) oV_Words_isDigit 2 (pc' := 9) (L' := [some (.int x0)]) (st' := [.int 57, .int x0]) rfl ?_
  exact z_icgt (Gr := Gr) (tgt := 16) (oV_Words_isDigit.1 (9, .if_icmp .gt 7) (ip_lk_mem rfl)) (by decide) (fun q => (z_forget (k0 q) trivial)) (fun q => (z_forget (k1 q) trivial))
set_option maxRecDepth 100000 in
theorem b_Words_isDigit_17 {l : Launch} {Gr : zG} {n w : Nat} {d : Nat} {S : zS} {Q : Option Value → zS → Prop} {s0 : Int32}  (k0 : Q (some (.int s0)) S) : zW l Gr (zc n w) 168 M_Words_isDigit d 17 [none] [.int s0] S Q := by
  exact z_ret (v := (some (.int s0))) (oV_Words_isDigit.1 (17, .ireturn) (ip_lk_mem rfl)) k0
set_option maxRecDepth 100000 in
theorem b_Words_isDigit_12 {l : Launch} {Gr : zG} {n w : Nat} {d : Nat} {S : zS} {Q : Option Value → zS → Prop}   (k0 : zW l Gr (zc n w) 168 M_Words_isDigit d 17 [none] [.int 1] S Q) : zW l Gr (zc n w) 168 M_Words_isDigit d 12 [none] [] S Q := by
  refine z_go (Gr := Gr) (zc := zc n w) (K := 168) oV_Words_isDigit 2 (pc' := 17) (L' := [none]) (st' := [.int 1]) rfl ?_
  exact k0
theorem e_Words_isDigit {l : Launch} {Gr : zG} {n w : Nat} {d : Nat} {S : zS} {R : Int32 → zS → Prop} {x0 : Int32} (k : zW l Gr (zc n w) 168 M_Words_isDigit d 0 [some (.int x0)] [] S (fun v S' => ∃ x, v = some (.int x) ∧ (x = 0 ∨ x = 1) ∧ R x S')) : zMi l Gr (zc n w) 168 M_Words_isDigit d [.int x0] S R := z_mb oM_Words_isDigit rfl (Nat.le_of_ble_eq_true rfl) k
set_option maxRecDepth 100000 in
theorem b_Words_isNameByte_0 {l : Launch} {Gr : zG} {n w : Nat} {d : Nat} {S : zS} {Q : Option Value → zS → Prop} {x0 : Int32}  (k0 : x0 < 97 → zW l Gr (zc n w) 168 M_Words_isNameByte d 12 [some (.int x0)] [] S Q) (k1 : ¬ x0 < 97 → zW l Gr (zc n w) 168 M_Words_isNameByte d 6 [some (.int x0)] [] S Q) : zW l Gr (zc n w) 168 M_Words_isNameByte d 0 [some (.int x0)] [] S Q := by
  refine z_go (Gr := Gr) (zc := zc n w) (K := 168) oV_Words_isNameByte 2 (pc' := 3) (L' := [some (.int x0)]) (st' := [.int 97, .int x0]) rfl ?_
  exact z_iclt (Gr := Gr) (tgt := 12) (oV_Words_isNameByte.1 (3, .if_icmp .lt 9) (ip_lk_mem rfl)) (by decide) (fun q => (k0 q)) (fun q => (k1 q))
set_option maxRecDepth 100000 in
theorem b_Words_isNameByte_12 {l : Launch} {Gr : zG} {n w : Nat} {d : Nat} {S : zS} {Q : Option Value → zS → Prop} {x0 : Int32}  (k0 : x0 < 65 → zW l Gr (zc n w) 168 M_Words_isNameByte d 24 [some (.int x0)] [] S Q) (k1 : ¬ x0 < 65 → zW l Gr (zc n w) 168 M_Words_isNameByte d 18 [some (.int x0)] [] S Q) : zW l Gr (zc n w) 168 M_Words_isNameByte d 12 [some (.int x0)] [] S Q := by
  refine z_go (Gr := Gr) (zc := zc n w) (K := 168) oV_Words_isNameByte 2 (pc' := 15) (L' := [some (.int x0)]) (st' := [.int 65, .int x0]) rfl ?_
  exact z_iclt (Gr := Gr) (tgt := 24) (oV_Words_isNameByte.1 (15, .if_icmp .lt 9) (ip_lk_mem rfl)) (by decide) (fun q => (k0 q)) (fun q => (k1 q))
set_option maxRecDepth 100000 in
theorem b_Words_isNameByte_6 {l : Launch} {Gr : zG} {n w : Nat} {d : Nat} {S : zS} {Q : Option Value → zS → Prop} {x0 : Int32}  (k0 : x0 ≤ 122 → zW l Gr (zc n w) 168 M_Words_isNameByte d 42 [none] [] S Q) (k1 : ¬ x0 ≤ 122 → zW l Gr (zc n w) 168 M_Words_isNameByte d 12 [some (.int x0)] [] S Q) : zW l Gr (zc n w) 168 M_Words_isNameByte d 6 [some (.int x0)] [] S Q := by
  refine z_go (Gr := Gr) (zc := zc n w) (K := 168) oV_Words_isNameByte 2 (pc' := 9) (L' := [some (.int x0)]) (st' := [.int 122, .int x0]) rfl ?_
  exact z_icle (Gr := Gr) (tgt := 42) (oV_Words_isNameByte.1 (9, .if_icmp .le 33) (ip_lk_mem rfl)) (by decide) (fun q => (z_forget (k0 q) trivial)) (fun q => (k1 q))
set_option maxRecDepth 100000 in
theorem b_Words_isNameByte_24 {l : Launch} {Gr : zG} {n w : Nat} {d : Nat} {S : zS} {Q : Option Value → zS → Prop} {x0 : Int32}  (k0 : x0 = 95 → zW l Gr (zc n w) 168 M_Words_isNameByte d 42 [none] [] S Q) (k1 : ¬ x0 = 95 → zW l Gr (zc n w) 168 M_Words_isNameByte d 30 [some (.int x0)] [] S Q) : zW l Gr (zc n w) 168 M_Words_isNameByte d 24 [some (.int x0)] [] S Q := by
  refine z_go (Gr := Gr) (zc := zc n w) (K := 168) oV_Words_isNameByte 2 (pc' := 27) (L' := [some (.int x0)]) (st' := [.int 95, .int x0]) rfl ?_
  exact z_iceq (Gr := Gr) (tgt := 42) (oV_Words_isNameByte.1 (27, .if_icmp .eq 15) (ip_lk_mem rfl)) (by decide) (fun q => (z_forget (k0 q) trivial)) (fun q => (k1 q))
set_option maxRecDepth 100000 in
theorem b_Words_isNameByte_18 {l : Launch} {Gr : zG} {n w : Nat} {d : Nat} {S : zS} {Q : Option Value → zS → Prop} {x0 : Int32}  (k0 : x0 ≤ 90 → zW l Gr (zc n w) 168 M_Words_isNameByte d 42 [none] [] S Q) (k1 : ¬ x0 ≤ 90 → zW l Gr (zc n w) 168 M_Words_isNameByte d 24 [some (.int x0)] [] S Q) : zW l Gr (zc n w) 168 M_Words_isNameByte d 18 [some (.int x0)] [] S Q := by
  refine z_go (Gr := Gr) (zc := zc n w) (K := 168) oV_Words_isNameByte 2 (pc' := 21) (L' := [some (.int x0)]) (st' := [.int 90, .int x0]) rfl ?_
  exact z_icle (Gr := Gr) (tgt := 42) (oV_Words_isNameByte.1 (21, .if_icmp .le 21) (ip_lk_mem rfl)) (by decide) (fun q => (z_forget (k0 q) trivial)) (fun q => (k1 q))
set_option maxRecDepth 100000 in
theorem b_Words_isNameByte_42 {l : Launch} {Gr : zG} {n w : Nat} {d : Nat} {S : zS} {Q : Option Value → zS → Prop}   (k0 : zW l Gr (zc n w) 168 M_Words_isNameByte d 47 [none] [.int 1] S Q) : zW l Gr (zc n w) 168 M_Words_isNameByte d 42 [none] [] S Q := by
  refine z_go (Gr := Gr) (zc := zc n w) (K := 168) oV_Words_isNameByte 2 (pc' := 47) (L' := [none]) (st' := [.int 1]) rfl ?_
  exact k0
set_option maxRecDepth 100000 in
theorem b_Words_isNameByte_30 {l : Launch} {Gr : zG} {n w : Nat} {d : Nat} {S : zS} {Q : Option Value → zS → Prop} {x0 : Int32}  (k0 : x0 < 48 → zW l Gr (zc n w) 168 M_Words_isNameByte d 46 [none] [] S Q) (k1 : ¬ x0 < 48 → zW l Gr (zc n w) 168 M_Words_isNameByte d 36 [some (.int x0)] [] S Q) : zW l Gr (zc n w) 168 M_Words_isNameByte d 30 [some (.int x0)] [] S Q := by
  refine z_go (Gr := Gr) (zc := zc n w) (K := 168) oV_Words_isNameByte 2 (pc' := 33) (L' := [some (.int x0)]) (st' := [.int 48, .int x0]) rfl ?_
  exact z_iclt (Gr := Gr) (tgt := 46) (oV_Words_isNameByte.1 (33, .if_icmp .lt 13) (ip_lk_mem rfl)) (by decide) (fun q => (z_forget (k0 q) trivial)) (fun q => (k1 q))
set_option maxRecDepth 100000 in
theorem b_Words_isNameByte_47 {l : Launch} {Gr : zG} {n w : Nat} {d : Nat} {S : zS} {Q : Option Value → zS → Prop} {s0 : Int32}  (k0 : Q (some (.int s0)) S) : zW l Gr (zc n w) 168 M_Words_isNameByte d 47 [none] [.int s0] S Q := by
  exact z_ret (v := (some (.int s0))) (oV_Words_isNameByte.1 (47, .ireturn) (ip_lk_mem rfl)) k0
set_option maxRecDepth 100000 in
theorem b_Words_isNameByte_46 {l : Launch} {Gr : zG} {n w : Nat} {d : Nat} {S : zS} {Q : Option Value → zS → Prop}   (k0 : zW l Gr (zc n w) 168 M_Words_isNameByte d 47 [none] [.int 0] S Q) : zW l Gr (zc n w) 168 M_Words_isNameByte d 46 [none] [] S Q := by
  refine z_go (Gr := Gr) (zc := zc n w) (K := 168) oV_Words_isNameByte 1 (pc' := 47) (L' := [none]) (st' := [.int 0]) rfl ?_
  exact k0
set_option maxRecDepth 100000 in
theorem b_Words_isNameByte_36 {l : Launch} {Gr : zG} {n w : Nat} {d : Nat} {S : zS} {Q : Option Value → zS → Prop} {x0 : Int32}  (k0 : 57 < x0 → zW l Gr (zc n w) 168 M_Words_isNameByte d 46 [none] [] S Q) (k1 : ¬ 57 < x0 → zW l Gr (zc n w) 168 M_Words_isNameByte d 42 [none] [] S Q) : zW l Gr (zc n w) 168 M_Words_isNameByte d 36 [some (.int x0)] [] S Q := by
  refine z_go (Gr := Gr) (zc := zc n w) (K := 168) oV_Words_isNameByte 2 (pc' := 39) (L' := [some (.int x0)]) (st' := [.int 57, .int x0]) rfl ?_
  exact z_icgt (Gr := Gr) (tgt := 46) (oV_Words_isNameByte.1 (39, .if_icmp .gt 7) (ip_lk_mem rfl)) (by decide) (fun q => (z_forget (k0 q) trivial)) (fun q => (z_forget (k1 q) trivial))
theorem e_Words_isNameByte {l : Launch} {Gr : zG} {n w : Nat} {d : Nat} {S : zS} {R : Int32 → zS → Prop} {x0 : Int32} (k : zW l Gr (zc n w) 168 M_Words_isNameByte d 0 [some (.int x0)] [] S (fun v S' => ∃ x, v = some (.int x) ∧ (x = 0 ∨ x = 1) ∧ R x S')) : zMi l Gr (zc n w) 168 M_Words_isNameByte d [.int x0] S R := z_mb oM_Words_isNameByte rfl (Nat.le_of_ble_eq_true rfl) k
set_option maxRecDepth 100000 in
theorem b_Words_signKind_0 {l : Launch} {Gr : zG} {n w : Nat} {d : Nat} {S : zS} {Q : Option Value → zS → Prop} {x0 : Int32} {x1 : Int32}  (k0 : ¬ x0 = x1 → zW l Gr (zc n w) 168 M_Words_signKind d 70 [some (.int x0), some (.int x1)] [] S Q) (k1 : x0 = x1 → zW l Gr (zc n w) 168 M_Words_signKind d 5 [some (.int x0), none] [] S Q) : zW l Gr (zc n w) 168 M_Words_signKind d 0 [some (.int x0), some (.int x1)] [] S Q := by
  refine z_go (Gr := Gr) (zc := zc n w) (K := 168) oV_Words_signKind 2 (pc' := 2) (L' := [some (.int x0), some (.int x1)]) (st' := [.int x1, .int x0]) rfl ?_
  exact z_icne (Gr := Gr) (tgt := 70) (oV_Words_signKind.1 (2, .if_icmp .ne 68) (ip_lk_mem rfl)) (by decide) (fun q => (k0 q)) (fun q => (z_forget (k1 q) (And.intro rfl trivial)))
set_option maxRecDepth 100000 in
theorem b_Words_signKind_70 {l : Launch} {Gr : zG} {n w : Nat} {d : Nat} {S : zS} {Q : Option Value → zS → Prop} {x0 : Int32} {x1 : Int32}  (k0 : x1 = 61 → zW l Gr (zc n w) 168 M_Words_signKind d 78 [some (.int x0), none] [] S Q) (k1 : ¬ x1 = 61 → zW l Gr (zc n w) 168 M_Words_signKind d 76 [some (.int x0), none] [] S Q) : zW l Gr (zc n w) 168 M_Words_signKind d 70 [some (.int x0), some (.int x1)] [] S Q := by
  refine z_go (Gr := Gr) (zc := zc n w) (K := 168) oV_Words_signKind 2 (pc' := 73) (L' := [some (.int x0), some (.int x1)]) (st' := [.int 61, .int x1]) rfl ?_
  exact z_iceq (Gr := Gr) (tgt := 78) (oV_Words_signKind.1 (73, .if_icmp .eq 5) (ip_lk_mem rfl)) (by decide) (fun q => (z_forget (k0 q) (And.intro rfl trivial))) (fun q => (z_forget (k1 q) (And.intro rfl trivial)))
set_option maxRecDepth 100000 in
theorem b_Words_signKind_5 {l : Launch} {Gr : zG} {n w : Nat} {d : Nat} {S : zS} {Q : Option Value → zS → Prop} {x0 : Int32}  (k0 : x0 = 38 → zW l Gr (zc n w) 168 M_Words_signKind d 58 [none, none] [] S Q) (k1 : x0 = 60 → zW l Gr (zc n w) 168 M_Words_signKind d 62 [none, none] [] S Q) (k2 : x0 = 61 → zW l Gr (zc n w) 168 M_Words_signKind d 60 [none, none] [] S Q) (k3 : x0 = 62 → zW l Gr (zc n w) 168 M_Words_signKind d 65 [none, none] [] S Q) (k4 : x0 = 124 → zW l Gr (zc n w) 168 M_Words_signKind d 56 [none, none] [] S Q) (k5 : ¬ x0 = 38 → ¬ x0 = 60 → ¬ x0 = 61 → ¬ x0 = 62 → ¬ x0 = 124 → zW l Gr (zc n w) 168 M_Words_signKind d 68 [some (.int x0), none] [] S Q) : zW l Gr (zc n w) 168 M_Words_signKind d 5 [some (.int x0), none] [] S Q := by
  refine z_go (Gr := Gr) (zc := zc n w) (K := 168) oV_Words_signKind 1 (pc' := 6) (L' := [some (.int x0), none]) (st' := [.int x0]) rfl ?_
  by_cases q0 : x0 = 38
  · exact z_lkp (Gr := Gr) (tgt := 58) (off := 52) (oV_Words_signKind.1 (6, .lookupswitch 62 #[(38, 52), (60, 56), (61, 54), (62, 59), (124, 50)]) (ip_lk_mem rfl)) (by decide) (by rw [q0]; decide) (by decide) (z_forget (k0 q0) trivial)
  by_cases q1 : x0 = 60
  · exact z_lkp (Gr := Gr) (tgt := 62) (off := 56) (oV_Words_signKind.1 (6, .lookupswitch 62 #[(38, 52), (60, 56), (61, 54), (62, 59), (124, 50)]) (ip_lk_mem rfl)) (by decide) (by rw [q1]; decide) (by decide) (z_forget (k1 q1) trivial)
  by_cases q2 : x0 = 61
  · exact z_lkp (Gr := Gr) (tgt := 60) (off := 54) (oV_Words_signKind.1 (6, .lookupswitch 62 #[(38, 52), (60, 56), (61, 54), (62, 59), (124, 50)]) (ip_lk_mem rfl)) (by decide) (by rw [q2]; decide) (by decide) (z_forget (k2 q2) trivial)
  by_cases q3 : x0 = 62
  · exact z_lkp (Gr := Gr) (tgt := 65) (off := 59) (oV_Words_signKind.1 (6, .lookupswitch 62 #[(38, 52), (60, 56), (61, 54), (62, 59), (124, 50)]) (ip_lk_mem rfl)) (by decide) (by rw [q3]; decide) (by decide) (z_forget (k3 q3) trivial)
  by_cases q4 : x0 = 124
  · exact z_lkp (Gr := Gr) (tgt := 56) (off := 50) (oV_Words_signKind.1 (6, .lookupswitch 62 #[(38, 52), (60, 56), (61, 54), (62, 59), (124, 50)]) (ip_lk_mem rfl)) (by decide) (by rw [q4]; decide) (by decide) (z_forget (k4 q4) trivial)
  have r0 : ¬ 38 = (x0).toInt := fun h => q0 (Int32.toInt_inj.mp h.symm)
  have r1 : ¬ 60 = (x0).toInt := fun h => q1 (Int32.toInt_inj.mp h.symm)
  have r2 : ¬ 61 = (x0).toInt := fun h => q2 (Int32.toInt_inj.mp h.symm)
  have r3 : ¬ 62 = (x0).toInt := fun h => q3 (Int32.toInt_inj.mp h.symm)
  have r4 : ¬ 124 = (x0).toInt := fun h => q4 (Int32.toInt_inj.mp h.symm)
  exact z_lkp (Gr := Gr) (tgt := 68) (off := 62) (oV_Words_signKind.1 (6, .lookupswitch 62 #[(38, 52), (60, 56), (61, 54), (62, 59), (124, 50)]) (ip_lk_mem rfl)) (by decide) (by simp [Op.lookupswitch.offset, r0, r1, r2, r3, r4]) (by decide) (k5 q0 q1 q2 q3 q4)
set_option maxRecDepth 100000 in
theorem b_Words_signKind_78 {l : Launch} {Gr : zG} {n w : Nat} {d : Nat} {S : zS} {Q : Option Value → zS → Prop} {x0 : Int32}  (k0 : ¬ x0 = 33 → zW l Gr (zc n w) 168 M_Words_signKind d 89 [some (.int x0), none] [] S Q) (k1 : x0 = 33 → zW l Gr (zc n w) 168 M_Words_signKind d 84 [none, none] [] S Q) : zW l Gr (zc n w) 168 M_Words_signKind d 78 [some (.int x0), none] [] S Q := by
  refine z_go (Gr := Gr) (zc := zc n w) (K := 168) oV_Words_signKind 2 (pc' := 81) (L' := [some (.int x0), none]) (st' := [.int 33, .int x0]) rfl ?_
  exact z_icne (Gr := Gr) (tgt := 89) (oV_Words_signKind.1 (81, .if_icmp .ne 8) (ip_lk_mem rfl)) (by decide) (fun q => (k0 q)) (fun q => (z_forget (k1 q) trivial))
set_option maxRecDepth 100000 in
theorem b_Words_signKind_76 {l : Launch} {Gr : zG} {n w : Nat} {d : Nat} {S : zS} {Q : Option Value → zS → Prop} {x0 : Int32}  (k0 : Q (some (.int x0)) S) : zW l Gr (zc n w) 168 M_Words_signKind d 76 [some (.int x0), none] [] S Q := by
  refine z_go (Gr := Gr) (zc := zc n w) (K := 168) oV_Words_signKind 1 (pc' := 77) (L' := [some (.int x0), none]) (st' := [.int x0]) rfl ?_
  exact z_ret (v := (some (.int x0))) (oV_Words_signKind.1 (77, .ireturn) (ip_lk_mem rfl)) k0
set_option maxRecDepth 100000 in
theorem b_Words_signKind_68 {l : Launch} {Gr : zG} {n w : Nat} {d : Nat} {S : zS} {Q : Option Value → zS → Prop} {x0 : Int32}  (k0 : Q (some (.int x0)) S) : zW l Gr (zc n w) 168 M_Words_signKind d 68 [some (.int x0), none] [] S Q := by
  refine z_go (Gr := Gr) (zc := zc n w) (K := 168) oV_Words_signKind 1 (pc' := 69) (L' := [some (.int x0), none]) (st' := [.int x0]) rfl ?_
  exact z_ret (v := (some (.int x0))) (oV_Words_signKind.1 (69, .ireturn) (ip_lk_mem rfl)) k0
set_option maxRecDepth 100000 in
theorem b_Words_signKind_58 {l : Launch} {Gr : zG} {n w : Nat} {d : Nat} {S : zS} {Q : Option Value → zS → Prop}   (k0 : Q (some (.int 4)) S) : zW l Gr (zc n w) 168 M_Words_signKind d 58 [none, none] [] S Q := by
  refine z_go (Gr := Gr) (zc := zc n w) (K := 168) oV_Words_signKind 1 (pc' := 59) (L' := [none, none]) (st' := [.int 4]) rfl ?_
  exact z_ret (v := (some (.int 4))) (oV_Words_signKind.1 (59, .ireturn) (ip_lk_mem rfl)) k0
set_option maxRecDepth 100000 in
theorem b_Words_signKind_62 {l : Launch} {Gr : zG} {n w : Nat} {d : Nat} {S : zS} {Q : Option Value → zS → Prop}   (k0 : Q (some (.int 11)) S) : zW l Gr (zc n w) 168 M_Words_signKind d 62 [none, none] [] S Q := by
  refine z_go (Gr := Gr) (zc := zc n w) (K := 168) oV_Words_signKind 1 (pc' := 64) (L' := [none, none]) (st' := [.int 11]) rfl ?_
  exact z_ret (v := (some (.int 11))) (oV_Words_signKind.1 (64, .ireturn) (ip_lk_mem rfl)) k0
set_option maxRecDepth 100000 in
theorem b_Words_signKind_60 {l : Launch} {Gr : zG} {n w : Nat} {d : Nat} {S : zS} {Q : Option Value → zS → Prop}   (k0 : Q (some (.int 5)) S) : zW l Gr (zc n w) 168 M_Words_signKind d 60 [none, none] [] S Q := by
  refine z_go (Gr := Gr) (zc := zc n w) (K := 168) oV_Words_signKind 1 (pc' := 61) (L' := [none, none]) (st' := [.int 5]) rfl ?_
  exact z_ret (v := (some (.int 5))) (oV_Words_signKind.1 (61, .ireturn) (ip_lk_mem rfl)) k0
set_option maxRecDepth 100000 in
theorem b_Words_signKind_65 {l : Launch} {Gr : zG} {n w : Nat} {d : Nat} {S : zS} {Q : Option Value → zS → Prop}   (k0 : Q (some (.int 12)) S) : zW l Gr (zc n w) 168 M_Words_signKind d 65 [none, none] [] S Q := by
  refine z_go (Gr := Gr) (zc := zc n w) (K := 168) oV_Words_signKind 1 (pc' := 67) (L' := [none, none]) (st' := [.int 12]) rfl ?_
  exact z_ret (v := (some (.int 12))) (oV_Words_signKind.1 (67, .ireturn) (ip_lk_mem rfl)) k0
set_option maxRecDepth 100000 in
theorem b_Words_signKind_56 {l : Launch} {Gr : zG} {n w : Nat} {d : Nat} {S : zS} {Q : Option Value → zS → Prop}   (k0 : Q (some (.int 3)) S) : zW l Gr (zc n w) 168 M_Words_signKind d 56 [none, none] [] S Q := by
  refine z_go (Gr := Gr) (zc := zc n w) (K := 168) oV_Words_signKind 1 (pc' := 57) (L' := [none, none]) (st' := [.int 3]) rfl ?_
  exact z_ret (v := (some (.int 3))) (oV_Words_signKind.1 (57, .ireturn) (ip_lk_mem rfl)) k0
set_option maxRecDepth 100000 in
theorem b_Words_signKind_89 {l : Launch} {Gr : zG} {n w : Nat} {d : Nat} {S : zS} {Q : Option Value → zS → Prop} {x0 : Int32}  (k0 : ¬ x0 = 60 → zW l Gr (zc n w) 168 M_Words_signKind d 100 [some (.int x0), none] [] S Q) (k1 : x0 = 60 → zW l Gr (zc n w) 168 M_Words_signKind d 95 [none, none] [] S Q) : zW l Gr (zc n w) 168 M_Words_signKind d 89 [some (.int x0), none] [] S Q := by
  refine z_go (Gr := Gr) (zc := zc n w) (K := 168) oV_Words_signKind 2 (pc' := 92) (L' := [some (.int x0), none]) (st' := [.int 60, .int x0]) rfl ?_
  exact z_icne (Gr := Gr) (tgt := 100) (oV_Words_signKind.1 (92, .if_icmp .ne 8) (ip_lk_mem rfl)) (by decide) (fun q => (k0 q)) (fun q => (z_forget (k1 q) trivial))
set_option maxRecDepth 100000 in
theorem b_Words_signKind_84 {l : Launch} {Gr : zG} {n w : Nat} {d : Nat} {S : zS} {Q : Option Value → zS → Prop}   (k0 : zW l Gr (zc n w) 168 M_Words_signKind d 112 [none, none] [.int 6] S Q) : zW l Gr (zc n w) 168 M_Words_signKind d 84 [none, none] [] S Q := by
  refine z_go (Gr := Gr) (zc := zc n w) (K := 168) oV_Words_signKind 2 (pc' := 112) (L' := [none, none]) (st' := [.int 6]) rfl ?_
  exact k0
set_option maxRecDepth 100000 in
theorem b_Words_signKind_100 {l : Launch} {Gr : zG} {n w : Nat} {d : Nat} {S : zS} {Q : Option Value → zS → Prop} {x0 : Int32}  (k0 : ¬ x0 = 62 → zW l Gr (zc n w) 168 M_Words_signKind d 111 [some (.int x0), none] [] S Q) (k1 : x0 = 62 → zW l Gr (zc n w) 168 M_Words_signKind d 106 [none, none] [] S Q) : zW l Gr (zc n w) 168 M_Words_signKind d 100 [some (.int x0), none] [] S Q := by
  refine z_go (Gr := Gr) (zc := zc n w) (K := 168) oV_Words_signKind 2 (pc' := 103) (L' := [some (.int x0), none]) (st' := [.int 62, .int x0]) rfl ?_
  exact z_icne (Gr := Gr) (tgt := 111) (oV_Words_signKind.1 (103, .if_icmp .ne 8) (ip_lk_mem rfl)) (by decide) (fun q => (k0 q)) (fun q => (z_forget (k1 q) trivial))
set_option maxRecDepth 100000 in
theorem b_Words_signKind_95 {l : Launch} {Gr : zG} {n w : Nat} {d : Nat} {S : zS} {Q : Option Value → zS → Prop}   (k0 : zW l Gr (zc n w) 168 M_Words_signKind d 112 [none, none] [.int 7] S Q) : zW l Gr (zc n w) 168 M_Words_signKind d 95 [none, none] [] S Q := by
  refine z_go (Gr := Gr) (zc := zc n w) (K := 168) oV_Words_signKind 2 (pc' := 112) (L' := [none, none]) (st' := [.int 7]) rfl ?_
  exact k0
set_option maxRecDepth 100000 in
theorem b_Words_signKind_112 {l : Launch} {Gr : zG} {n w : Nat} {d : Nat} {S : zS} {Q : Option Value → zS → Prop} {s0 : Int32}  (k0 : Q (some (.int s0)) S) : zW l Gr (zc n w) 168 M_Words_signKind d 112 [none, none] [.int s0] S Q := by
  exact z_ret (v := (some (.int s0))) (oV_Words_signKind.1 (112, .ireturn) (ip_lk_mem rfl)) k0
set_option maxRecDepth 100000 in
theorem b_Words_signKind_111 {l : Launch} {Gr : zG} {n w : Nat} {d : Nat} {S : zS} {Q : Option Value → zS → Prop} {x0 : Int32}  (k0 : zW l Gr (zc n w) 168 M_Words_signKind d 112 [none, none] [.int x0] S Q) : zW l Gr (zc n w) 168 M_Words_signKind d 111 [some (.int x0), none] [] S Q := by
  refine z_go (Gr := Gr) (zc := zc n w) (K := 168) oV_Words_signKind 1 (pc' := 112) (L' := [some (.int x0), none]) (st' := [.int x0]) rfl ?_
  exact (z_forget k0 trivial)
set_option maxRecDepth 100000 in
theorem b_Words_signKind_106 {l : Launch} {Gr : zG} {n w : Nat} {d : Nat} {S : zS} {Q : Option Value → zS → Prop}   (k0 : zW l Gr (zc n w) 168 M_Words_signKind d 112 [none, none] [.int 8] S Q) : zW l Gr (zc n w) 168 M_Words_signKind d 106 [none, none] [] S Q := by
  refine z_go (Gr := Gr) (zc := zc n w) (K := 168) oV_Words_signKind 2 (pc' := 112) (L' := [none, none]) (st' := [.int 8]) rfl ?_
  exact k0
theorem e_Words_signKind {l : Launch} {Gr : zG} {n w : Nat} {d : Nat} {S : zS} {R : Int32 → zS → Prop} {x0 : Int32} {x1 : Int32} (k : zW l Gr (zc n w) 168 M_Words_signKind d 0 [some (.int x0), some (.int x1)] [] S (fun v S' => ∃ x, v = some (.int x) ∧ R x S')) : zMi l Gr (zc n w) 168 M_Words_signKind d [.int x0, .int x1] S R := z_mi oM_Words_signKind rfl (Nat.le_of_ble_eq_true rfl) k
set_option maxRecDepth 100000 in
theorem b_Words_skipBlanks_0 {l : Launch} {Gr : zG} {n w : Nat} {d : Nat} {S : zS} {Q : Option Value → zS → Prop}   (k0 : zW l Gr (zc n w) 168 M_Words_skipBlanks d 2 [some (.ref 70), some (.int 0), none] [] S Q) : zW l Gr (zc n w) 168 M_Words_skipBlanks d 0 [some (.ref 70), none, none] [] S Q := by
  refine z_go (Gr := Gr) (zc := zc n w) (K := 168) oV_Words_skipBlanks 2 (pc' := 2) (L' := [some (.ref 70), some (.int 0), none]) (st' := []) rfl ?_
  exact k0
set_option maxRecDepth 100000 in
theorem b_Words_skipBlanks_2 {l : Launch} {Gr : zG} {n w : Nat} {d : Nat} {S : zS} {Q : Option Value → zS → Prop} {x1 : Int32}  (k0 : (S.1 38 1) ≤ (S.1 38 4) → zW l Gr (zc n w) 168 M_Words_skipBlanks d 81 [none, none, none] [] S Q) (k1 : ¬ (S.1 38 1) ≤ (S.1 38 4) → zW l Gr (zc n w) 168 M_Words_skipBlanks d 13 [some (.ref 70), some (.int x1), none] [] S Q) : zW l Gr (zc n w) 168 M_Words_skipBlanks d 2 [some (.ref 70), some (.int x1), none] [] S Q := by
  refine z_go (Gr := Gr) (zc := zc n w) (K := 168) oV_Words_skipBlanks 4 (pc' := 10) (L' := [some (.ref 70), some (.int x1), none]) (st' := [.int (S.1 38 1), .int (S.1 38 4)]) rfl ?_
  exact z_icge (Gr := Gr) (tgt := 81) (oV_Words_skipBlanks.1 (10, .if_icmp .ge 71) (ip_lk_mem rfl)) (by decide) (fun q => (z_forget (k0 q) trivial)) (fun q => (k1 q))
set_option maxRecDepth 100000 in
theorem b_Words_skipBlanks_81 {l : Launch} {Gr : zG} {n w : Nat} {d : Nat} {S : zS} {Q : Option Value → zS → Prop}   (k0 : Q none S) : zW l Gr (zc n w) 168 M_Words_skipBlanks d 81 [none, none, none] [] S Q := by
  exact z_ret (v := none) (oV_Words_skipBlanks.1 (81, .return_) (ip_lk_mem rfl)) k0
set_option maxRecDepth 100000 in
theorem b_Words_skipBlanks_13 {l : Launch} {Gr : zG} {n w : Nat} {d : Nat} {S : zS} {Q : Option Value → zS → Prop} {x1 : Int32} (g0 : vp_in (S.1 38 4) 4000) (k0 : (S.1 2 (((S.1 38 4) : Int32).toNatClampNeg)) = 10 → zW l Gr (zc n w) 168 M_Words_skipBlanks d 43 [some (.ref 70), none, some (.int (S.1 2 (((S.1 38 4) : Int32).toNatClampNeg)))] [] S Q) (k1 : ¬ (S.1 2 (((S.1 38 4) : Int32).toNatClampNeg)) = 10 → zW l Gr (zc n w) 168 M_Words_skipBlanks d 29 [some (.ref 70), some (.int x1), some (.int (S.1 2 (((S.1 38 4) : Int32).toNatClampNeg)))] [] S Q) : zW l Gr (zc n w) 168 M_Words_skipBlanks d 13 [some (.ref 70), some (.int x1), none] [] S Q := by
  refine z_go (Gr := Gr) (zc := zc n w) (K := 168) oV_Words_skipBlanks 4 (pc' := 21) (L' := [some (.ref 70), some (.int x1), none]) (st' := [.int (S.1 38 4), .ref 34]) rfl ?_
  refine z_bald (Gr := Gr) (c := 2) (oV_Words_skipBlanks.1 (21, .baload) (ip_lk_mem rfl)) (by decide) rfl g0 ?_
  refine z_go (Gr := Gr) (zc := zc n w) (K := 168) oV_Words_skipBlanks 3 (pc' := 26) (L' := [some (.ref 70), some (.int x1), some (.int (S.1 2 (((S.1 38 4) : Int32).toNatClampNeg)))]) (st' := [.int 10, .int (S.1 2 (((S.1 38 4) : Int32).toNatClampNeg))]) rfl ?_
  exact z_iceq (Gr := Gr) (tgt := 43) (oV_Words_skipBlanks.1 (26, .if_icmp .eq 17) (ip_lk_mem rfl)) (by decide) (fun q => (z_forget (k0 q) (And.intro rfl (And.intro rfl trivial)))) (fun q => (k1 q))
set_option maxRecDepth 100000 in
theorem b_Words_skipBlanks_43 {l : Launch} {Gr : zG} {n w : Nat} {d : Nat} {S : zS} {Q : Option Value → zS → Prop} {x2 : Int32}  (k0 : zW l Gr (zc n w) 168 M_Words_skipBlanks d 44 [some (.ref 70), none, some (.int x2)] [.int 0] S Q) : zW l Gr (zc n w) 168 M_Words_skipBlanks d 43 [some (.ref 70), none, some (.int x2)] [] S Q := by
  refine z_go (Gr := Gr) (zc := zc n w) (K := 168) oV_Words_skipBlanks 1 (pc' := 44) (L' := [some (.ref 70), none, some (.int x2)]) (st' := [.int 0]) rfl ?_
  exact k0
set_option maxRecDepth 100000 in
theorem b_Words_skipBlanks_29 {l : Launch} {Gr : zG} {n w : Nat} {d : Nat} {S : zS} {Q : Option Value → zS → Prop} {x1 : Int32} {x2 : Int32}  (k0 : ¬ x1 = 0 → zW l Gr (zc n w) 168 M_Words_skipBlanks d 39 [some (.ref 70), none, some (.int x2)] [] S Q) (k1 : x1 = 0 → zW l Gr (zc n w) 168 M_Words_skipBlanks d 33 [some (.ref 70), none, some (.int x2)] [] S Q) : zW l Gr (zc n w) 168 M_Words_skipBlanks d 29 [some (.ref 70), some (.int x1), some (.int x2)] [] S Q := by
  refine z_go (Gr := Gr) (zc := zc n w) (K := 168) oV_Words_skipBlanks 1 (pc' := 30) (L' := [some (.ref 70), some (.int x1), some (.int x2)]) (st' := [.int x1]) rfl ?_
  exact z_ifne (Gr := Gr) (tgt := 39) (oV_Words_skipBlanks.1 (30, .ifCond .ne 9) (ip_lk_mem rfl)) (by decide) (fun q => (z_forget (k0 q) (And.intro rfl (And.intro rfl trivial)))) (fun q => (z_forget (k1 q) (And.intro rfl (And.intro rfl trivial))))
set_option maxRecDepth 100000 in
theorem b_Words_skipBlanks_44 {l : Launch} {Gr : zG} {n w : Nat} {d : Nat} {S : zS} {Q : Option Value → zS → Prop} {x2 : Int32} {s0 : Int32}  (k0 : ¬ s0 = 0 → zW l Gr (zc n w) 168 M_Words_skipBlanks d 68 [some (.ref 70), some (.int s0), none] [] S Q) (k1 : s0 = 0 → zW l Gr (zc n w) 168 M_Words_skipBlanks d 49 [some (.ref 70), some (.int s0), some (.int x2)] [] S Q) : zW l Gr (zc n w) 168 M_Words_skipBlanks d 44 [some (.ref 70), none, some (.int x2)] [.int s0] S Q := by
  refine z_go (Gr := Gr) (zc := zc n w) (K := 168) oV_Words_skipBlanks 2 (pc' := 46) (L' := [some (.ref 70), some (.int s0), some (.int x2)]) (st' := [.int s0]) rfl ?_
  exact z_ifne (Gr := Gr) (tgt := 68) (oV_Words_skipBlanks.1 (46, .ifCond .ne 22) (ip_lk_mem rfl)) (by decide) (fun q => (z_forget (k0 q) (And.intro rfl (And.intro rfl trivial)))) (fun q => (k1 q))
set_option maxRecDepth 100000 in
theorem b_Words_skipBlanks_39 {l : Launch} {Gr : zG} {n w : Nat} {d : Nat} {S : zS} {Q : Option Value → zS → Prop} {x2 : Int32}  (k0 : zW l Gr (zc n w) 168 M_Words_skipBlanks d 44 [some (.ref 70), none, some (.int x2)] [.int 1] S Q) : zW l Gr (zc n w) 168 M_Words_skipBlanks d 39 [some (.ref 70), none, some (.int x2)] [] S Q := by
  refine z_go (Gr := Gr) (zc := zc n w) (K := 168) oV_Words_skipBlanks 2 (pc' := 44) (L' := [some (.ref 70), none, some (.int x2)]) (st' := [.int 1]) rfl ?_
  exact k0
set_option maxRecDepth 100000 in
theorem b_Words_skipBlanks_33 {l : Launch} {Gr : zG} {n w : Nat} {d : Nat} {S : zS} {Q : Option Value → zS → Prop} {x2 : Int32}  (k0 : ¬ x2 = 35 → zW l Gr (zc n w) 168 M_Words_skipBlanks d 43 [some (.ref 70), none, some (.int x2)] [] S Q) (k1 : x2 = 35 → zW l Gr (zc n w) 168 M_Words_skipBlanks d 39 [some (.ref 70), none, some (.int x2)] [] S Q) : zW l Gr (zc n w) 168 M_Words_skipBlanks d 33 [some (.ref 70), none, some (.int x2)] [] S Q := by
  refine z_go (Gr := Gr) (zc := zc n w) (K := 168) oV_Words_skipBlanks 2 (pc' := 36) (L' := [some (.ref 70), none, some (.int x2)]) (st' := [.int 35, .int x2]) rfl ?_
  exact z_icne (Gr := Gr) (tgt := 43) (oV_Words_skipBlanks.1 (36, .if_icmp .ne 7) (ip_lk_mem rfl)) (by decide) (fun q => (k0 q)) (fun q => (k1 q))
set_option maxRecDepth 100000 in
theorem b_Words_skipBlanks_68 {l : Launch} {Gr : zG} {n w : Nat} {d : Nat} {S : zS} {Q : Option Value → zS → Prop} {x1 : Int32}  (k0 : zW l Gr (zc n w) 168 M_Words_skipBlanks d 2 [some (.ref 70), some (.int x1), none] [] (zi S 38 4 ((S.1 38 4) + 1)) Q) : zW l Gr (zc n w) 168 M_Words_skipBlanks d 68 [some (.ref 70), some (.int x1), none] [] S Q := by
  refine z_go (Gr := Gr) (zc := zc n w) (K := 168) oV_Words_skipBlanks 5 (pc' := 75) (L' := [some (.ref 70), some (.int x1), none]) (st' := [.int ((S.1 38 4) + 1), .ref 70]) rfl ?_
  refine z_putI (Gr := Gr) (c := 38) (oV_Words_skipBlanks.1 (75, .putfield 19) (ip_lk_mem rfl)) (oV_Words_skipBlanks.2.1 (19, 10, 4, .int, false) (ip_lk_mem rfl)).1 (by decide) (zo_38 _ _ _ _) (zs_38_4 _ _ _ _ _) (zn_38_4 _ _ _ _) rfl ?_
  refine z_go (Gr := Gr) (zc := zc n w) (K := 168) oV_Words_skipBlanks 1 (pc' := 2) (L' := [some (.ref 70), some (.int x1), none]) (st' := []) rfl ?_
  exact k0
set_option maxRecDepth 100000 in
theorem b_Words_skipBlanks_49 {l : Launch} {Gr : zG} {n w : Nat} {d : Nat} {S : zS} {Q : Option Value → zS → Prop} {x1 : Int32} {x2 : Int32}  (k0 : x2 = 32 → zW l Gr (zc n w) 168 M_Words_skipBlanks d 68 [some (.ref 70), some (.int x1), none] [] S Q) (k1 : ¬ x2 = 32 → zW l Gr (zc n w) 168 M_Words_skipBlanks d 55 [some (.ref 70), some (.int x1), some (.int x2)] [] S Q) : zW l Gr (zc n w) 168 M_Words_skipBlanks d 49 [some (.ref 70), some (.int x1), some (.int x2)] [] S Q := by
  refine z_go (Gr := Gr) (zc := zc n w) (K := 168) oV_Words_skipBlanks 2 (pc' := 52) (L' := [some (.ref 70), some (.int x1), some (.int x2)]) (st' := [.int 32, .int x2]) rfl ?_
  exact z_iceq (Gr := Gr) (tgt := 68) (oV_Words_skipBlanks.1 (52, .if_icmp .eq 16) (ip_lk_mem rfl)) (by decide) (fun q => (z_forget (k0 q) (And.intro rfl (And.intro rfl trivial)))) (fun q => (k1 q))
set_option maxRecDepth 100000 in
theorem b_Words_skipBlanks_55 {l : Launch} {Gr : zG} {n w : Nat} {d : Nat} {S : zS} {Q : Option Value → zS → Prop} {x1 : Int32} {x2 : Int32}  (k0 : x2 = 9 → zW l Gr (zc n w) 168 M_Words_skipBlanks d 68 [some (.ref 70), some (.int x1), none] [] S Q) (k1 : ¬ x2 = 9 → zW l Gr (zc n w) 168 M_Words_skipBlanks d 61 [some (.ref 70), some (.int x1), some (.int x2)] [] S Q) : zW l Gr (zc n w) 168 M_Words_skipBlanks d 55 [some (.ref 70), some (.int x1), some (.int x2)] [] S Q := by
  refine z_go (Gr := Gr) (zc := zc n w) (K := 168) oV_Words_skipBlanks 2 (pc' := 58) (L' := [some (.ref 70), some (.int x1), some (.int x2)]) (st' := [.int 9, .int x2]) rfl ?_
  exact z_iceq (Gr := Gr) (tgt := 68) (oV_Words_skipBlanks.1 (58, .if_icmp .eq 10) (ip_lk_mem rfl)) (by decide) (fun q => (z_forget (k0 q) (And.intro rfl (And.intro rfl trivial)))) (fun q => (k1 q))
set_option maxRecDepth 100000 in
theorem b_Words_skipBlanks_61 {l : Launch} {Gr : zG} {n w : Nat} {d : Nat} {S : zS} {Q : Option Value → zS → Prop} {x1 : Int32} {x2 : Int32}  (k0 : x2 = 10 → zW l Gr (zc n w) 168 M_Words_skipBlanks d 68 [some (.ref 70), some (.int x1), none] [] S Q) (k1 : ¬ x2 = 10 → zW l Gr (zc n w) 168 M_Words_skipBlanks d 67 [none, none, none] [] S Q) : zW l Gr (zc n w) 168 M_Words_skipBlanks d 61 [some (.ref 70), some (.int x1), some (.int x2)] [] S Q := by
  refine z_go (Gr := Gr) (zc := zc n w) (K := 168) oV_Words_skipBlanks 2 (pc' := 64) (L' := [some (.ref 70), some (.int x1), some (.int x2)]) (st' := [.int 10, .int x2]) rfl ?_
  exact z_iceq (Gr := Gr) (tgt := 68) (oV_Words_skipBlanks.1 (64, .if_icmp .eq 4) (ip_lk_mem rfl)) (by decide) (fun q => (z_forget (k0 q) (And.intro rfl (And.intro rfl trivial)))) (fun q => (z_forget (k1 q) trivial))
set_option maxRecDepth 100000 in
theorem b_Words_skipBlanks_67 {l : Launch} {Gr : zG} {n w : Nat} {d : Nat} {S : zS} {Q : Option Value → zS → Prop}   (k0 : Q none S) : zW l Gr (zc n w) 168 M_Words_skipBlanks d 67 [none, none, none] [] S Q := by
  exact z_ret (v := none) (oV_Words_skipBlanks.1 (67, .return_) (ip_lk_mem rfl)) k0
theorem e_Words_skipBlanks {l : Launch} {Gr : zG} {n w : Nat} {d : Nat} {S : zS} {R : zS → Prop}  (k : zW l Gr (zc n w) 168 M_Words_skipBlanks d 0 [some (.ref 70), none, none] [] S (fun v S' => v = none ∧ R S')) : zMv l Gr (zc n w) 168 M_Words_skipBlanks d [.ref 70] S R := z_mv oM_Words_skipBlanks rfl (Nat.le_of_ble_eq_true rfl) k
set_option maxRecDepth 100000 in
theorem b_Words_wordKind_0 {l : Launch} {Gr : zG} {n w : Nat} {d : Nat} {S : zS} {Q : Option Value → zS → Prop}   (k0 : ((S.1 38 4) - (S.1 38 3)) ≤ 6 → zW l Gr (zc n w) 168 M_Words_wordKind (d + 4) 18 [some (.ref 70), some (.int ((S.1 38 4) - (S.1 38 3))), none, none, none, none] [] S Q) (k1 : ¬ ((S.1 38 4) - (S.1 38 3)) ≤ 6 → zW l Gr (zc n w) 168 M_Words_wordKind (d + 4) 16 [none, none, none, none, none, none] [] S Q) : zW l Gr (zc n w) 168 M_Words_wordKind (d + 4) 0 [some (.ref 70), none, none, none, none, none] [] S Q := by
  refine z_go (Gr := Gr) (zc := zc n w) (K := 168) oV_Words_wordKind 8 (pc' := 13) (L' := [some (.ref 70), some (.int ((S.1 38 4) - (S.1 38 3))), none, none, none, none]) (st' := [.int 6, .int ((S.1 38 4) - (S.1 38 3))]) rfl ?_
  exact z_icle (Gr := Gr) (tgt := 18) (oV_Words_wordKind.1 (13, .if_icmp .le 5) (ip_lk_mem rfl)) (by decide) (fun q => (k0 q)) (fun q => (z_forget (k1 q) trivial))
set_option maxRecDepth 100000 in
theorem b_Words_wordKind_18 {l : Launch} {Gr : zG} {n w : Nat} {d : Nat} {S : zS} {Q : Option Value → zS → Prop} {x1 : Int32}  (k0 : zW l Gr (zc n w) 168 M_Words_wordKind (d + 4) 27 [some (.ref 70), some (.int x1), some (.int 200), some (.int 0), some (.int 0), none] [] S Q) : zW l Gr (zc n w) 168 M_Words_wordKind (d + 4) 18 [some (.ref 70), some (.int x1), none, none, none, none] [] S Q := by
  refine z_go (Gr := Gr) (zc := zc n w) (K := 168) oV_Words_wordKind 6 (pc' := 27) (L' := [some (.ref 70), some (.int x1), some (.int 200), some (.int 0), some (.int 0), none]) (st' := []) rfl ?_
  exact k0
set_option maxRecDepth 100000 in
theorem b_Words_wordKind_16 {l : Launch} {Gr : zG} {n w : Nat} {d : Nat} {S : zS} {Q : Option Value → zS → Prop}   (k0 : Q (some (.int 1)) S) : zW l Gr (zc n w) 168 M_Words_wordKind (d + 4) 16 [none, none, none, none, none, none] [] S Q := by
  refine z_go (Gr := Gr) (zc := zc n w) (K := 168) oV_Words_wordKind 1 (pc' := 17) (L' := [none, none, none, none, none, none]) (st' := [.int 1]) rfl ?_
  exact z_ret (v := (some (.int 1))) (oV_Words_wordKind.1 (17, .ireturn) (ip_lk_mem rfl)) k0
set_option maxRecDepth 100000 in
theorem b_Words_wordKind_27 {l : Launch} {Gr : zG} {n w : Nat} {d : Nat} {S : zS} {Q : Option Value → zS → Prop} (hg : ip_gk (lg_tbl, vwCl, Gr)) (ho : ip_old (lg_tbl, vwCl, Gr)) {x1 : Int32} {x2 : Int32} {x3 : Int32} {x4 : Int32}  (k0 : (nI 58) ≤ x4 → zW l Gr (zc n w) 168 M_Words_wordKind (d + 4) 107 [none, none, none, none, none, none] [] S Q) (k1 : ¬ (nI 58) ≤ x4 → zW l Gr (zc n w) 168 M_Words_wordKind (d + 4) 37 [some (.ref 70), some (.int x1), some (.int x2), some (.int x3), some (.int x4), none] [] S Q) : zW l Gr (zc n w) 168 M_Words_wordKind (d + 4) 27 [some (.ref 70), some (.int x1), some (.int x2), some (.int x3), some (.int x4), none] [] S Q := by
  refine z_go (Gr := Gr) (zc := zc n w) (K := 168) oV_Words_wordKind 1 (pc' := 29) (L' := [some (.ref 70), some (.int x1), some (.int x2), some (.int x3), some (.int x4), none]) (st' := [.int x4]) rfl ?_
  refine z_ldcS (Gr := Gr) (k := 3) (oV_Words_wordKind.1 (29, .ldc 55) (ip_lk_mem rfl)) (by decide) (ho.2.2.2.2.1).1 ?_
  refine z_slen (Gr := Gr) (k := 0) hg (oV_Words_wordKind.1 (31, .invokevirtual 57) (ip_lk_mem rfl)) (tt_3 _ (List.mem_of_getElem? (i := 195) rfl) rfl) (by decide) (ho.2.2.1) (ho.2.2.2.2.1).2 (by decide) (Nat.le_of_ble_eq_true rfl) ?_
  exact z_icge (Gr := Gr) (tgt := 107) (oV_Words_wordKind.1 (34, .if_icmp .ge 73) (ip_lk_mem rfl)) (by decide) (fun q => (z_forget (k0 q) trivial)) (fun q => (k1 q))
set_option maxRecDepth 100000 in
theorem b_Words_wordKind_107 {l : Launch} {Gr : zG} {n w : Nat} {d : Nat} {S : zS} {Q : Option Value → zS → Prop}   (k0 : Q (some (.int 1)) S) : zW l Gr (zc n w) 168 M_Words_wordKind (d + 4) 107 [none, none, none, none, none, none] [] S Q := by
  refine z_go (Gr := Gr) (zc := zc n w) (K := 168) oV_Words_wordKind 1 (pc' := 108) (L' := [none, none, none, none, none, none]) (st' := [.int 1]) rfl ?_
  exact z_ret (v := (some (.int 1))) (oV_Words_wordKind.1 (108, .ireturn) (ip_lk_mem rfl)) k0
set_option maxRecDepth 100000 in
theorem b_Words_wordKind_37 {l : Launch} {Gr : zG} {n w : Nat} {d : Nat} {S : zS} {Q : Option Value → zS → Prop} (hg : ip_gk (lg_tbl, vwCl, Gr)) (ho : ip_old (lg_tbl, vwCl, Gr)) {x1 : Int32} {x2 : Int32} {x3 : Int32} {x4 : Int32} (g0 : vp_in x4 58) (k0 : ¬ ((oTx0 ((x4 : Int32).toNatClampNeg) &&& 255).toUInt32 % 65536).toInt32 = 32 → zW l Gr (zc n w) 168 M_Words_wordKind (d + 4) 68 [some (.ref 70), some (.int x1), some (.int x2), some (.int x3), some (.int x4), some (.int ((oTx0 ((x4 : Int32).toNatClampNeg) &&& 255).toUInt32 % 65536).toInt32)] [] S Q) (k1 : ((oTx0 ((x4 : Int32).toNatClampNeg) &&& 255).toUInt32 % 65536).toInt32 = 32 → zW l Gr (zc n w) 168 M_Words_wordKind (d + 4) 53 [some (.ref 70), some (.int x1), some (.int x2), some (.int x3), some (.int x4), none] [] S Q) : zW l Gr (zc n w) 168 M_Words_wordKind (d + 4) 37 [some (.ref 70), some (.int x1), some (.int x2), some (.int x3), some (.int x4), none] [] S Q := by
  refine z_ldcS (Gr := Gr) (k := 3) (oV_Words_wordKind.1 (37, .ldc 55) (ip_lk_mem rfl)) (by decide) (ho.2.2.2.2.1).1 ?_
  refine z_go (Gr := Gr) (zc := zc n w) (K := 168) oV_Words_wordKind 1 (pc' := 41) (L' := [some (.ref 70), some (.int x1), some (.int x2), some (.int x3), some (.int x4), none]) (st' := [.int x4, .ref 3]) rfl ?_
  refine z_sch (Gr := Gr) (k := 0) hg (oV_Words_wordKind.1 (41, .invokevirtual 61) (ip_lk_mem rfl)) (tt_3 _ (List.mem_of_getElem? (i := 205) rfl) rfl) (by decide) (ho.2.2.1) (ho.2.2.2.1) (ho.2.2.2.2.1).2 (by decide) g0 (Nat.le_of_ble_eq_true rfl) ?_
  refine z_go (Gr := Gr) (zc := zc n w) (K := 168) oV_Words_wordKind 3 (pc' := 50) (L' := [some (.ref 70), some (.int x1), some (.int x2), some (.int x3), some (.int x4), some (.int ((oTx0 ((x4 : Int32).toNatClampNeg) &&& 255).toUInt32 % 65536).toInt32)]) (st' := [.int 32, .int ((oTx0 ((x4 : Int32).toNatClampNeg) &&& 255).toUInt32 % 65536).toInt32]) rfl ?_
  exact z_icne (Gr := Gr) (tgt := 68) (oV_Words_wordKind.1 (50, .if_icmp .ne 18) (ip_lk_mem rfl)) (by decide) (fun q => (k0 q)) (fun q => (z_forget (k1 q) (And.intro rfl (And.intro rfl (And.intro rfl (And.intro rfl (And.intro rfl trivial)))))))
set_option maxRecDepth 100000 in
theorem b_Words_wordKind_68 {l : Launch} {Gr : zG} {n w : Nat} {d : Nat} {S : zS} {Q : Option Value → zS → Prop} {x1 : Int32} {x2 : Int32} {x3 : Int32} {x4 : Int32} {x5 : Int32}  (k0 : x3 < 0 → zW l Gr (zc n w) 168 M_Words_wordKind (d + 4) 99 [some (.ref 70), some (.int x1), some (.int x2), none, some (.int x4), none] [] S Q) (k1 : ¬ x3 < 0 → zW l Gr (zc n w) 168 M_Words_wordKind (d + 4) 72 [some (.ref 70), some (.int x1), some (.int x2), some (.int x3), some (.int x4), some (.int x5)] [] S Q) : zW l Gr (zc n w) 168 M_Words_wordKind (d + 4) 68 [some (.ref 70), some (.int x1), some (.int x2), some (.int x3), some (.int x4), some (.int x5)] [] S Q := by
  refine z_go (Gr := Gr) (zc := zc n w) (K := 168) oV_Words_wordKind 1 (pc' := 69) (L' := [some (.ref 70), some (.int x1), some (.int x2), some (.int x3), some (.int x4), some (.int x5)]) (st' := [.int x3]) rfl ?_
  exact z_iflt (Gr := Gr) (tgt := 99) (oV_Words_wordKind.1 (69, .ifCond .lt 30) (ip_lk_mem rfl)) (by decide) (fun q => (z_forget (k0 q) (And.intro rfl (And.intro rfl (And.intro rfl (And.intro rfl trivial)))))) (fun q => (k1 q))
set_option maxRecDepth 100000 in
theorem b_Words_wordKind_53 {l : Launch} {Gr : zG} {n w : Nat} {d : Nat} {S : zS} {Q : Option Value → zS → Prop} {x1 : Int32} {x2 : Int32} {x3 : Int32} {x4 : Int32}  (k0 : ¬ x3 = x1 → zW l Gr (zc n w) 168 M_Words_wordKind (d + 4) 60 [some (.ref 70), some (.int x1), some (.int x2), none, some (.int x4), none] [] S Q) (k1 : x3 = x1 → zW l Gr (zc n w) 168 M_Words_wordKind (d + 4) 58 [none, none, some (.int x2), none, none, none] [] S Q) : zW l Gr (zc n w) 168 M_Words_wordKind (d + 4) 53 [some (.ref 70), some (.int x1), some (.int x2), some (.int x3), some (.int x4), none] [] S Q := by
  refine z_go (Gr := Gr) (zc := zc n w) (K := 168) oV_Words_wordKind 2 (pc' := 55) (L' := [some (.ref 70), some (.int x1), some (.int x2), some (.int x3), some (.int x4), none]) (st' := [.int x1, .int x3]) rfl ?_
  exact z_icne (Gr := Gr) (tgt := 60) (oV_Words_wordKind.1 (55, .if_icmp .ne 5) (ip_lk_mem rfl)) (by decide) (fun q => (z_forget (k0 q) (And.intro rfl (And.intro rfl (And.intro rfl (And.intro rfl trivial)))))) (fun q => (z_forget (k1 q) (And.intro rfl trivial)))
set_option maxRecDepth 100000 in
theorem b_Words_wordKind_99 {l : Launch} {Gr : zG} {n w : Nat} {d : Nat} {S : zS} {Q : Option Value → zS → Prop} {x1 : Int32} {x2 : Int32} {x4 : Int32}  (k0 : zW l Gr (zc n w) 168 M_Words_wordKind (d + 4) 101 [some (.ref 70), some (.int x1), some (.int x2), some (.int (-1)), some (.int x4), none] [] S Q) : zW l Gr (zc n w) 168 M_Words_wordKind (d + 4) 99 [some (.ref 70), some (.int x1), some (.int x2), none, some (.int x4), none] [] S Q := by
  refine z_go (Gr := Gr) (zc := zc n w) (K := 168) oV_Words_wordKind 2 (pc' := 101) (L' := [some (.ref 70), some (.int x1), some (.int x2), some (.int (-1)), some (.int x4), none]) (st' := []) rfl ?_
  exact k0
set_option maxRecDepth 100000 in
theorem b_Words_wordKind_72 {l : Launch} {Gr : zG} {n w : Nat} {d : Nat} {S : zS} {Q : Option Value → zS → Prop} {x1 : Int32} {x2 : Int32} {x3 : Int32} {x4 : Int32} {x5 : Int32}  (k0 : x1 ≤ x3 → zW l Gr (zc n w) 168 M_Words_wordKind (d + 4) 99 [some (.ref 70), some (.int x1), some (.int x2), none, some (.int x4), none] [] S Q) (k1 : ¬ x1 ≤ x3 → zW l Gr (zc n w) 168 M_Words_wordKind (d + 4) 77 [some (.ref 70), some (.int x1), some (.int x2), some (.int x3), some (.int x4), some (.int x5)] [] S Q) : zW l Gr (zc n w) 168 M_Words_wordKind (d + 4) 72 [some (.ref 70), some (.int x1), some (.int x2), some (.int x3), some (.int x4), some (.int x5)] [] S Q := by
  refine z_go (Gr := Gr) (zc := zc n w) (K := 168) oV_Words_wordKind 2 (pc' := 74) (L' := [some (.ref 70), some (.int x1), some (.int x2), some (.int x3), some (.int x4), some (.int x5)]) (st' := [.int x1, .int x3]) rfl ?_
  exact z_icge (Gr := Gr) (tgt := 99) (oV_Words_wordKind.1 (74, .if_icmp .ge 25) (ip_lk_mem rfl)) (by decide) (fun q => (z_forget (k0 q) (And.intro rfl (And.intro rfl (And.intro rfl (And.intro rfl trivial)))))) (fun q => (k1 q))
set_option maxRecDepth 100000 in
theorem b_Words_wordKind_60 {l : Launch} {Gr : zG} {n w : Nat} {d : Nat} {S : zS} {Q : Option Value → zS → Prop} {x1 : Int32} {x2 : Int32} {x4 : Int32}  (k0 : zW l Gr (zc n w) 168 M_Words_wordKind (d + 4) 101 [some (.ref 70), some (.int x1), some (.int (x2 + Int32.ofInt 1)), some (.int 0), some (.int x4), none] [] S Q) : zW l Gr (zc n w) 168 M_Words_wordKind (d + 4) 60 [some (.ref 70), some (.int x1), some (.int x2), none, some (.int x4), none] [] S Q := by
  refine z_go (Gr := Gr) (zc := zc n w) (K := 168) oV_Words_wordKind 4 (pc' := 101) (L' := [some (.ref 70), some (.int x1), some (.int (x2 + Int32.ofInt 1)), some (.int 0), some (.int x4), none]) (st' := []) rfl ?_
  exact k0
set_option maxRecDepth 100000 in
theorem b_Words_wordKind_58 {l : Launch} {Gr : zG} {n w : Nat} {d : Nat} {S : zS} {Q : Option Value → zS → Prop} {x2 : Int32}  (k0 : Q (some (.int x2)) S) : zW l Gr (zc n w) 168 M_Words_wordKind (d + 4) 58 [none, none, some (.int x2), none, none, none] [] S Q := by
  refine z_go (Gr := Gr) (zc := zc n w) (K := 168) oV_Words_wordKind 1 (pc' := 59) (L' := [none, none, some (.int x2), none, none, none]) (st' := [.int x2]) rfl ?_
  exact z_ret (v := (some (.int x2))) (oV_Words_wordKind.1 (59, .ireturn) (ip_lk_mem rfl)) k0
set_option maxRecDepth 100000 in
theorem b_Words_wordKind_101 {l : Launch} {Gr : zG} {n w : Nat} {d : Nat} {S : zS} {Q : Option Value → zS → Prop} {x1 : Int32} {x2 : Int32} {x3 : Int32} {x4 : Int32}  (k0 : zW l Gr (zc n w) 168 M_Words_wordKind (d + 4) 27 [some (.ref 70), some (.int x1), some (.int x2), some (.int x3), some (.int (x4 + Int32.ofInt 1)), none] [] S Q) : zW l Gr (zc n w) 168 M_Words_wordKind (d + 4) 101 [some (.ref 70), some (.int x1), some (.int x2), some (.int x3), some (.int x4), none] [] S Q := by
  refine z_go (Gr := Gr) (zc := zc n w) (K := 168) oV_Words_wordKind 2 (pc' := 27) (L' := [some (.ref 70), some (.int x1), some (.int x2), some (.int x3), some (.int (x4 + Int32.ofInt 1)), none]) (st' := []) rfl ?_
  exact k0
set_option maxRecDepth 100000 in
theorem b_Words_wordKind_77 {l : Launch} {Gr : zG} {n w : Nat} {d : Nat} {S : zS} {Q : Option Value → zS → Prop} {x1 : Int32} {x2 : Int32} {x3 : Int32} {x4 : Int32} {x5 : Int32} (g0 : vp_in ((S.1 38 3) + x3) 4000) (k0 : ¬ (S.1 2 ((((S.1 38 3) + x3) : Int32).toNatClampNeg)) = x5 → zW l Gr (zc n w) 168 M_Words_wordKind (d + 4) 99 [some (.ref 70), some (.int x1), some (.int x2), none, some (.int x4), none] [] S Q) (k1 : (S.1 2 ((((S.1 38 3) + x3) : Int32).toNatClampNeg)) = x5 → zW l Gr (zc n w) 168 M_Words_wordKind (d + 4) 93 [some (.ref 70), some (.int x1), some (.int x2), some (.int x3), some (.int x4), none] [] S Q) : zW l Gr (zc n w) 168 M_Words_wordKind (d + 4) 77 [some (.ref 70), some (.int x1), some (.int x2), some (.int x3), some (.int x4), some (.int x5)] [] S Q := by
  refine z_go (Gr := Gr) (zc := zc n w) (K := 168) oV_Words_wordKind 6 (pc' := 87) (L' := [some (.ref 70), some (.int x1), some (.int x2), some (.int x3), some (.int x4), some (.int x5)]) (st' := [.int ((S.1 38 3) + x3), .ref 34]) rfl ?_
  refine z_bald (Gr := Gr) (c := 2) (oV_Words_wordKind.1 (87, .baload) (ip_lk_mem rfl)) (by decide) rfl g0 ?_
  refine z_go (Gr := Gr) (zc := zc n w) (K := 168) oV_Words_wordKind 1 (pc' := 90) (L' := [some (.ref 70), some (.int x1), some (.int x2), some (.int x3), some (.int x4), some (.int x5)]) (st' := [.int x5, .int (S.1 2 ((((S.1 38 3) + x3) : Int32).toNatClampNeg))]) rfl ?_
  exact z_icne (Gr := Gr) (tgt := 99) (oV_Words_wordKind.1 (90, .if_icmp .ne 9) (ip_lk_mem rfl)) (by decide) (fun q => (z_forget (k0 q) (And.intro rfl (And.intro rfl (And.intro rfl (And.intro rfl trivial)))))) (fun q => (z_forget (k1 q) (And.intro rfl (And.intro rfl (And.intro rfl (And.intro rfl (And.intro rfl trivial)))))))
set_option maxRecDepth 100000 in
theorem b_Words_wordKind_93 {l : Launch} {Gr : zG} {n w : Nat} {d : Nat} {S : zS} {Q : Option Value → zS → Prop} {x1 : Int32} {x2 : Int32} {x3 : Int32} {x4 : Int32}  (k0 : zW l Gr (zc n w) 168 M_Words_wordKind (d + 4) 101 [some (.ref 70), some (.int x1), some (.int x2), some (.int (x3 + Int32.ofInt 1)), some (.int x4), none] [] S Q) : zW l Gr (zc n w) 168 M_Words_wordKind (d + 4) 93 [some (.ref 70), some (.int x1), some (.int x2), some (.int x3), some (.int x4), none] [] S Q := by
  refine z_go (Gr := Gr) (zc := zc n w) (K := 168) oV_Words_wordKind 2 (pc' := 101) (L' := [some (.ref 70), some (.int x1), some (.int x2), some (.int (x3 + Int32.ofInt 1)), some (.int x4), none]) (st' := []) rfl ?_
  exact k0
theorem e_Words_wordKind {l : Launch} {Gr : zG} {n w : Nat} {d : Nat} {S : zS} {R : Int32 → zS → Prop}  (k : zW l Gr (zc n w) 168 M_Words_wordKind (d + 4) 0 [some (.ref 70), none, none, none, none, none] [] S (fun v S' => ∃ x, v = some (.int x) ∧ R x S')) : zMi l Gr (zc n w) 168 M_Words_wordKind (d + 4) [.ref 70] S R := z_mi oM_Words_wordKind rfl (Nat.le_of_ble_eq_true rfl) k
set_option maxRecDepth 100000 in
theorem b_Words_number_0 {l : Launch} {Gr : zG} {n w : Nat} {d : Nat} {S : zS} {Q : Option Value → zS → Prop}   (k0 : ((S.1 38 4) - (S.1 38 3)) ≤ 10 → zW l Gr (zc n w) 168 M_Words_number d 18 [some (.ref 70), none, none, none] [] S Q) (k1 : ¬ ((S.1 38 4) - (S.1 38 3)) ≤ 10 → zW l Gr (zc n w) 168 M_Words_number d 14 [none, none, none, none] [] S Q) : zW l Gr (zc n w) 168 M_Words_number d 0 [some (.ref 70), none, none, none] [] S Q := by
  refine z_go (Gr := Gr) (zc := zc n w) (K := 168) oV_Words_number 6 (pc' := 11) (L' := [some (.ref 70), none, none, none]) (st' := [.int 10, .int ((S.1 38 4) - (S.1 38 3))]) rfl ?_
  exact z_icle (Gr := Gr) (tgt := 18) (oV_Words_number.1 (11, .if_icmp .le 7) (ip_lk_mem rfl)) (by decide) (fun q => (k0 q)) (fun q => (z_forget (k1 q) trivial))
set_option maxRecDepth 100000 in
theorem b_Words_number_18 {l : Launch} {Gr : zG} {n w : Nat} {d : Nat} {S : zS} {Q : Option Value → zS → Prop}   (k0 : zW l Gr (zc n w) 168 M_Words_number d 25 [some (.ref 70), some (.long 0), none, some (.int (S.1 38 3))] [] S Q) : zW l Gr (zc n w) 168 M_Words_number d 18 [some (.ref 70), none, none, none] [] S Q := by
  refine z_go (Gr := Gr) (zc := zc n w) (K := 168) oV_Words_number 5 (pc' := 25) (L' := [some (.ref 70), some (.long 0), none, some (.int (S.1 38 3))]) (st' := []) rfl ?_
  exact k0
set_option maxRecDepth 100000 in
theorem b_Words_number_14 {l : Launch} {Gr : zG} {n w : Nat} {d : Nat} {S : zS} {Q : Option Value → zS → Prop}   (k0 : Q (some (.long (-1))) S) : zW l Gr (zc n w) 168 M_Words_number d 14 [none, none, none, none] [] S Q := by
  refine z_go (Gr := Gr) (zc := zc n w) (K := 168) oV_Words_number 1 (pc' := 17) (L' := [none, none, none, none]) (st' := [.long (-1)]) rfl ?_
  exact z_ret (v := (some (.long (-1)))) (oV_Words_number.1 (17, .lreturn) (ip_lk_mem rfl)) k0
set_option maxRecDepth 100000 in
theorem b_Words_number_25 {l : Launch} {Gr : zG} {n w : Nat} {d : Nat} {S : zS} {Q : Option Value → zS → Prop} {x1 : Int64} {x3 : Int32}  (k0 : (S.1 38 4) ≤ x3 → zW l Gr (zc n w) 168 M_Words_number d 56 [none, some (.long x1), none, none] [] S Q) (k1 : ¬ (S.1 38 4) ≤ x3 → zW l Gr (zc n w) 168 M_Words_number d 33 [some (.ref 70), some (.long x1), none, some (.int x3)] [] S Q) : zW l Gr (zc n w) 168 M_Words_number d 25 [some (.ref 70), some (.long x1), none, some (.int x3)] [] S Q := by
  refine z_go (Gr := Gr) (zc := zc n w) (K := 168) oV_Words_number 3 (pc' := 30) (L' := [some (.ref 70), some (.long x1), none, some (.int x3)]) (st' := [.int (S.1 38 4), .int x3]) rfl ?_
  exact z_icge (Gr := Gr) (tgt := 56) (oV_Words_number.1 (30, .if_icmp .ge 26) (ip_lk_mem rfl)) (by decide) (fun q => (z_forget (k0 q) (And.intro rfl trivial))) (fun q => (k1 q))
set_option maxRecDepth 100000 in
theorem b_Words_number_56 {l : Launch} {Gr : zG} {n w : Nat} {d : Nat} {S : zS} {Q : Option Value → zS → Prop} {x1 : Int64}  (k0 : (lg_cmp x1 4294967295) ≤ 0 → zW l Gr (zc n w) 168 M_Words_number d 70 [none, some (.long x1), none, none] [] S Q) (k1 : ¬ (lg_cmp x1 4294967295) ≤ 0 → zW l Gr (zc n w) 168 M_Words_number d 64 [none, none, none, none] [] S Q) : zW l Gr (zc n w) 168 M_Words_number d 56 [none, some (.long x1), none, none] [] S Q := by
  refine z_go (Gr := Gr) (zc := zc n w) (K := 168) oV_Words_number 3 (pc' := 61) (L' := [none, some (.long x1), none, none]) (st' := [.int (lg_cmp x1 4294967295)]) rfl ?_
  exact z_ifle (Gr := Gr) (tgt := 70) (oV_Words_number.1 (61, .ifCond .le 9) (ip_lk_mem rfl)) (by decide) (fun q => (k0 q)) (fun q => (z_forget (k1 q) trivial))
set_option maxRecDepth 100000 in
theorem b_Words_number_33 {l : Launch} {Gr : zG} {n w : Nat} {d : Nat} {S : zS} {Q : Option Value → zS → Prop} {x1 : Int64} {x3 : Int32} (g0 : vp_in x3 4000) (k0 : zW l Gr (zc n w) 168 M_Words_number d 25 [some (.ref 70), some (.long ((10 * x1) + ((((S.1 2 ((x3 : Int32).toNatClampNeg)) - 48) : Int32)).toInt64)), none, some (.int (x3 + Int32.ofInt 1))] [] S Q) : zW l Gr (zc n w) 168 M_Words_number d 33 [some (.ref 70), some (.long x1), none, some (.int x3)] [] S Q := by
  refine z_go (Gr := Gr) (zc := zc n w) (K := 168) oV_Words_number 6 (pc' := 43) (L' := [some (.ref 70), some (.long x1), none, some (.int x3)]) (st' := [.int x3, .ref 34, .long (10 * x1)]) rfl ?_
  refine z_bald (Gr := Gr) (c := 2) (oV_Words_number.1 (43, .baload) (ip_lk_mem rfl)) (by decide) rfl g0 ?_
  refine z_go (Gr := Gr) (zc := zc n w) (K := 168) oV_Words_number 7 (pc' := 25) (L' := [some (.ref 70), some (.long ((10 * x1) + ((((S.1 2 ((x3 : Int32).toNatClampNeg)) - 48) : Int32)).toInt64)), none, some (.int (x3 + Int32.ofInt 1))]) (st' := []) rfl ?_
  exact k0
set_option maxRecDepth 100000 in
theorem b_Words_number_70 {l : Launch} {Gr : zG} {n w : Nat} {d : Nat} {S : zS} {Q : Option Value → zS → Prop} {x1 : Int64}  (k0 : zW l Gr (zc n w) 168 M_Words_number d 71 [none, none, none, none] [.long x1] S Q) : zW l Gr (zc n w) 168 M_Words_number d 70 [none, some (.long x1), none, none] [] S Q := by
  refine z_go (Gr := Gr) (zc := zc n w) (K := 168) oV_Words_number 1 (pc' := 71) (L' := [none, some (.long x1), none, none]) (st' := [.long x1]) rfl ?_
  exact (z_forget k0 trivial)
set_option maxRecDepth 100000 in
theorem b_Words_number_64 {l : Launch} {Gr : zG} {n w : Nat} {d : Nat} {S : zS} {Q : Option Value → zS → Prop}   (k0 : zW l Gr (zc n w) 168 M_Words_number d 71 [none, none, none, none] [.long (-1)] S Q) : zW l Gr (zc n w) 168 M_Words_number d 64 [none, none, none, none] [] S Q := by
  refine z_go (Gr := Gr) (zc := zc n w) (K := 168) oV_Words_number 2 (pc' := 71) (L' := [none, none, none, none]) (st' := [.long (-1)]) rfl ?_
  exact k0
set_option maxRecDepth 100000 in
theorem b_Words_number_71 {l : Launch} {Gr : zG} {n w : Nat} {d : Nat} {S : zS} {Q : Option Value → zS → Prop} {s0 : Int64}  (k0 : Q (some (.long s0)) S) : zW l Gr (zc n w) 168 M_Words_number d 71 [none, none, none, none] [.long s0] S Q := by
  exact z_ret (v := (some (.long s0))) (oV_Words_number.1 (71, .lreturn) (ip_lk_mem rfl)) k0
theorem e_Words_number {l : Launch} {Gr : zG} {n w : Nat} {d : Nat} {S : zS} {R : Int64 → zS → Prop}  (k : zW l Gr (zc n w) 168 M_Words_number d 0 [some (.ref 70), none, none, none] [] S (fun v S' => ∃ x, v = some (.long x) ∧ R x S')) : zMl l Gr (zc n w) 168 M_Words_number d [.ref 70] S R := z_ml oM_Words_number rfl (Nat.le_of_ble_eq_true rfl) k
set_option maxRecDepth 100000 in
theorem b_Reader_readIndex_0 {l : Launch} {Gr : zG} {n w : Nat} {d : Nat} {S : zS} {Q : Option Value → zS → Prop} {R : Int32 → zS → Prop} (hg : ip_gk (lg_tbl, vwCl, Gr)) {x1 : Int32} {x2 : Int32}  (k0 : zMi l Gr (zc n w) 168 M_Reader_opens d [.ref 66, .int 91, .int x2] S R) (k1 : ∀ v S', R v S' → zW l Gr (zc n w) 168 M_Reader_readIndex (d + 1) 7 [some (.ref 66), some (.int x1), some (.int x2), none] [.int v] S' Q) : zW l Gr (zc n w) 168 M_Reader_readIndex (d + 1) 0 [some (.ref 66), some (.int x1), some (.int x2), none] [] S Q := by
  refine z_go (Gr := Gr) (zc := zc n w) (K := 168) oV_Reader_readIndex 3 (pc' := 4) (L' := [some (.ref 66), some (.int x1), some (.int x2), none]) (st' := [.int x2, .int 91, .ref 66]) rfl ?_
  exact z_callV (Gr := Gr) hg.2.2.1 fT oM_Reader_opens (oV_Reader_readIndex.1 (4, .invokevirtual 161) (ip_lk_mem rfl)) ⟨tt_4 _ (List.mem_of_getElem? (i := 90) rfl) rfl, tt_4 _ (List.mem_of_getElem? (i := 92) rfl) rfl, fS_Reader_opens⟩ (c := 34) (ci := 8) (As := [.int 91, .int x2]) rfl rfl rfl (by decide) rfl (Nat.le_of_ble_eq_true rfl) k0 (fun v S' q => by obtain ⟨x, rfl, q⟩ := q; exact (k1 _ _ q))
set_option maxRecDepth 100000 in
theorem b_Reader_readIndex_7 {l : Launch} {Gr : zG} {n w : Nat} {d : Nat} {S : zS} {Q : Option Value → zS → Prop} {x1 : Int32} {x2 : Int32} {s0 : Int32}  (k0 : ¬ s0 = 0 → zW l Gr (zc n w) 168 M_Reader_readIndex (d + 1) 11 [some (.ref 66), some (.int x1), some (.int x2), none] [] S Q) (k1 : s0 = 0 → zW l Gr (zc n w) 168 M_Reader_readIndex (d + 1) 10 [none, none, none, none] [] S Q) : zW l Gr (zc n w) 168 M_Reader_readIndex (d + 1) 7 [some (.ref 66), some (.int x1), some (.int x2), none] [.int s0] S Q := by
  exact z_ifne (Gr := Gr) (tgt := 11) (oV_Reader_readIndex.1 (7, .ifCond .ne 4) (ip_lk_mem rfl)) (by decide) (fun q => (k0 q)) (fun q => (z_forget (k1 q) trivial))
set_option maxRecDepth 100000 in
theorem b_Reader_readIndex_11 {l : Launch} {Gr : zG} {n w : Nat} {d : Nat} {S : zS} {Q : Option Value → zS → Prop} {R : zS → Prop} (hg : ip_gk (lg_tbl, vwCl, Gr)) {x1 : Int32} {x2 : Int32}  (k0 : zMv l Gr (zc n w) 168 M_Reader_readExpr d [.ref 66, .int (x2 + 1)] S R) (k1 : ∀ S', R S' → zW l Gr (zc n w) 168 M_Reader_readIndex (d + 1) 26 [some (.ref 66), some (.int x1), none, some (.int (S.1 38 3))] [] S' Q) : zW l Gr (zc n w) 168 M_Reader_readIndex (d + 1) 11 [some (.ref 66), some (.int x1), some (.int x2), none] [] S Q := by
  refine z_go (Gr := Gr) (zc := zc n w) (K := 168) oV_Reader_readIndex 8 (pc' := 23) (L' := [some (.ref 66), some (.int x1), some (.int x2), some (.int (S.1 38 3))]) (st' := [.int (x2 + 1), .ref 66]) rfl ?_
  exact z_callV (Gr := Gr) hg.2.2.1 fT oM_Reader_readExpr (oV_Reader_readIndex.1 (23, .invokevirtual 133) (ip_lk_mem rfl)) ⟨tt_4 _ (List.mem_of_getElem? (i := 78) rfl) rfl, tt_4 _ (List.mem_of_getElem? (i := 80) rfl) rfl, fS_Reader_readExpr⟩ (c := 34) (ci := 8) (As := [.int (x2 + 1)]) rfl rfl rfl (by decide) rfl (Nat.le_of_ble_eq_true rfl) k0 (fun v S' q => by obtain ⟨rfl, q⟩ := q; exact (z_forget (k1 _ q) (And.intro rfl (And.intro rfl (And.intro rfl trivial)))))
set_option maxRecDepth 100000 in
theorem b_Reader_readIndex_10 {l : Launch} {Gr : zG} {n w : Nat} {d : Nat} {S : zS} {Q : Option Value → zS → Prop}   (k0 : Q none S) : zW l Gr (zc n w) 168 M_Reader_readIndex (d + 1) 10 [none, none, none, none] [] S Q := by
  exact z_ret (v := none) (oV_Reader_readIndex.1 (10, .return_) (ip_lk_mem rfl)) k0
set_option maxRecDepth 100000 in
theorem b_Reader_readIndex_26 {l : Launch} {Gr : zG} {n w : Nat} {d : Nat} {S : zS} {Q : Option Value → zS → Prop} {R : Int32 → zS → Prop} (hg : ip_gk (lg_tbl, vwCl, Gr)) {x1 : Int32} {x3 : Int32}  (k0 : zMi l Gr (zc n w) 168 M_Code_add d [.ref 35, .int 26, .int x1, .int x3] S R) (k1 : ∀ v S', R v S' → zW l Gr (zc n w) 168 M_Reader_readIndex (d + 1) 37 [some (.ref 66), none, none, none] [.int v] S' Q) : zW l Gr (zc n w) 168 M_Reader_readIndex (d + 1) 26 [some (.ref 66), some (.int x1), none, some (.int x3)] [] S Q := by
  refine z_go (Gr := Gr) (zc := zc n w) (K := 168) oV_Reader_readIndex 5 (pc' := 34) (L' := [some (.ref 66), some (.int x1), none, some (.int x3)]) (st' := [.int x3, .int x1, .int 26, .ref 35]) rfl ?_
  exact z_callV (Gr := Gr) hg.2.2.1 fT oM_Code_add (oV_Reader_readIndex.1 (34, .invokevirtual 113) (ip_lk_mem rfl)) ⟨tt_4 _ (List.mem_of_getElem? (i := 62) rfl) rfl, tt_4 _ (List.mem_of_getElem? (i := 63) rfl) rfl, tt_4 _ (List.mem_of_getElem? (i := 64) rfl) rfl⟩ (c := 3) (ci := 2) (As := [.int 26, .int x1, .int x3]) rfl rfl rfl (by decide) rfl (Nat.le_of_ble_eq_true rfl) k0 (fun v S' q => by obtain ⟨x, rfl, q⟩ := q; exact (z_forget (k1 _ _ q) (And.intro rfl trivial)))
set_option maxRecDepth 100000 in
theorem b_Reader_readIndex_37 {l : Launch} {Gr : zG} {n w : Nat} {d : Nat} {S : zS} {Q : Option Value → zS → Prop} {R : zS → Prop} (hg : ip_gk (lg_tbl, vwCl, Gr)) {s0 : Int32}  (k0 : zMv l Gr (zc n w) 168 M_Reader_expect d [.ref 66, .int 93] S R) (k1 : ∀ S', R S' → zW l Gr (zc n w) 168 M_Reader_readIndex (d + 1) 44 [none, none, none, none] [] S' Q) : zW l Gr (zc n w) 168 M_Reader_readIndex (d + 1) 37 [some (.ref 66), none, none, none] [.int s0] S Q := by
  refine z_go (Gr := Gr) (zc := zc n w) (K := 168) oV_Reader_readIndex 3 (pc' := 41) (L' := [some (.ref 66), none, none, none]) (st' := [.int 93, .ref 66]) rfl ?_
  exact z_callV (Gr := Gr) hg.2.2.1 fT oM_Reader_expect (oV_Reader_readIndex.1 (41, .invokevirtual 86) (ip_lk_mem rfl)) ⟨tt_4 _ (List.mem_of_getElem? (i := 19) rfl) rfl, tt_4 _ (List.mem_of_getElem? (i := 21) rfl) rfl, fS_Reader_expect⟩ (c := 34) (ci := 8) (As := [.int 93]) rfl rfl rfl (by decide) rfl (Nat.le_of_ble_eq_true rfl) k0 (fun v S' q => by obtain ⟨rfl, q⟩ := q; exact (z_forget (k1 _ q) trivial))
set_option maxRecDepth 100000 in
theorem b_Reader_readIndex_44 {l : Launch} {Gr : zG} {n w : Nat} {d : Nat} {S : zS} {Q : Option Value → zS → Prop}   (k0 : Q none S) : zW l Gr (zc n w) 168 M_Reader_readIndex (d + 1) 44 [none, none, none, none] [] S Q := by
  exact z_ret (v := none) (oV_Reader_readIndex.1 (44, .return_) (ip_lk_mem rfl)) k0
theorem e_Reader_readIndex {l : Launch} {Gr : zG} {n w : Nat} {d : Nat} {S : zS} {R : zS → Prop} {x1 : Int32} {x2 : Int32} (k : zW l Gr (zc n w) 168 M_Reader_readIndex (d + 1) 0 [some (.ref 66), some (.int x1), some (.int x2), none] [] S (fun v S' => v = none ∧ R S')) : zMv l Gr (zc n w) 168 M_Reader_readIndex (d + 1) [.ref 66, .int x1, .int x2] S R := z_mv oM_Reader_readIndex rfl (Nat.le_of_ble_eq_true rfl) k
set_option maxRecDepth 100000 in
theorem b_Reader_readBlock_0 {l : Launch} {Gr : zG} {n w : Nat} {d : Nat} {S : zS} {Q : Option Value → zS → Prop} {R : Int32 → zS → Prop} (hg : ip_gk (lg_tbl, vwCl, Gr)) {x1 : Int32}  (k0 : zMi l Gr (zc n w) 168 M_Reader_opens d [.ref 66, .int 123, .int x1] S R) (k1 : ∀ v S', R v S' → zW l Gr (zc n w) 168 M_Reader_readBlock (d + 1) 7 [some (.ref 66), some (.int x1), none] [.int v] S' Q) : zW l Gr (zc n w) 168 M_Reader_readBlock (d + 1) 0 [some (.ref 66), some (.int x1), none] [] S Q := by
  refine z_go (Gr := Gr) (zc := zc n w) (K := 168) oV_Reader_readBlock 3 (pc' := 4) (L' := [some (.ref 66), some (.int x1), none]) (st' := [.int x1, .int 123, .ref 66]) rfl ?_
  exact z_callV (Gr := Gr) hg.2.2.1 fT oM_Reader_opens (oV_Reader_readBlock.1 (4, .invokevirtual 161) (ip_lk_mem rfl)) ⟨tt_4 _ (List.mem_of_getElem? (i := 90) rfl) rfl, tt_4 _ (List.mem_of_getElem? (i := 92) rfl) rfl, fS_Reader_opens⟩ (c := 34) (ci := 8) (As := [.int 123, .int x1]) rfl rfl rfl (by decide) rfl (Nat.le_of_ble_eq_true rfl) k0 (fun v S' q => by obtain ⟨x, rfl, q⟩ := q; exact (k1 _ _ q))
set_option maxRecDepth 100000 in
theorem b_Reader_readBlock_7 {l : Launch} {Gr : zG} {n w : Nat} {d : Nat} {S : zS} {Q : Option Value → zS → Prop} {x1 : Int32} {s0 : Int32}  (k0 : ¬ s0 = 0 → zW l Gr (zc n w) 168 M_Reader_readBlock (d + 1) 11 [some (.ref 66), some (.int x1), none] [] S Q) (k1 : s0 = 0 → zW l Gr (zc n w) 168 M_Reader_readBlock (d + 1) 10 [none, none, none] [] S Q) : zW l Gr (zc n w) 168 M_Reader_readBlock (d + 1) 7 [some (.ref 66), some (.int x1), none] [.int s0] S Q := by
  exact z_ifne (Gr := Gr) (tgt := 11) (oV_Reader_readBlock.1 (7, .ifCond .ne 4) (ip_lk_mem rfl)) (by decide) (fun q => (k0 q)) (fun q => (z_forget (k1 q) trivial))
set_option maxRecDepth 100000 in
theorem b_Reader_readBlock_11 {l : Launch} {Gr : zG} {n w : Nat} {d : Nat} {S : zS} {Q : Option Value → zS → Prop} {x1 : Int32}  (k0 : zW l Gr (zc n w) 168 M_Reader_readBlock (d + 1) 13 [some (.ref 66), some (.int x1), some (.int 0)] [] S Q) : zW l Gr (zc n w) 168 M_Reader_readBlock (d + 1) 11 [some (.ref 66), some (.int x1), none] [] S Q := by
  refine z_go (Gr := Gr) (zc := zc n w) (K := 168) oV_Reader_readBlock 2 (pc' := 13) (L' := [some (.ref 66), some (.int x1), some (.int 0)]) (st' := []) rfl ?_
  exact k0
set_option maxRecDepth 100000 in
theorem b_Reader_readBlock_10 {l : Launch} {Gr : zG} {n w : Nat} {d : Nat} {S : zS} {Q : Option Value → zS → Prop}   (k0 : Q none S) : zW l Gr (zc n w) 168 M_Reader_readBlock (d + 1) 10 [none, none, none] [] S Q := by
  exact z_ret (v := none) (oV_Reader_readBlock.1 (10, .return_) (ip_lk_mem rfl)) k0
set_option maxRecDepth 100000 in
theorem b_Reader_readBlock_13 {l : Launch} {Gr : zG} {n w : Nat} {d : Nat} {S : zS} {Q : Option Value → zS → Prop} {x1 : Int32} {x2 : Int32}  (k0 : 4000 ≤ x2 → zW l Gr (zc n w) 168 M_Reader_readBlock (d + 1) 55 [some (.ref 66), none, none] [] S Q) (k1 : ¬ 4000 ≤ x2 → zW l Gr (zc n w) 168 M_Reader_readBlock (d + 1) 20 [some (.ref 66), some (.int x1), some (.int x2)] [] S Q) : zW l Gr (zc n w) 168 M_Reader_readBlock (d + 1) 13 [some (.ref 66), some (.int x1), some (.int x2)] [] S Q := by
  refine z_go (Gr := Gr) (zc := zc n w) (K := 168) oV_Reader_readBlock 2 (pc' := 17) (L' := [some (.ref 66), some (.int x1), some (.int x2)]) (st' := [.int 4000, .int x2]) rfl ?_
  exact z_icge (Gr := Gr) (tgt := 55) (oV_Reader_readBlock.1 (17, .if_icmp .ge 38) (ip_lk_mem rfl)) (by decide) (fun q => (z_forget (k0 q) (And.intro rfl trivial))) (fun q => (k1 q))
set_option maxRecDepth 100000 in
theorem b_Reader_readBlock_55 {l : Launch} {Gr : zG} {n w : Nat} {d : Nat} {S : zS} {Q : Option Value → zS → Prop} {R : zS → Prop} (hg : ip_gk (lg_tbl, vwCl, Gr))   (k0 : zMv l Gr (zc n w) 168 M_Reader_expect d [.ref 66, .int 125] S R) (k1 : ∀ S', R S' → zW l Gr (zc n w) 168 M_Reader_readBlock (d + 1) 61 [none, none, none] [] S' Q) : zW l Gr (zc n w) 168 M_Reader_readBlock (d + 1) 55 [some (.ref 66), none, none] [] S Q := by
  refine z_go (Gr := Gr) (zc := zc n w) (K := 168) oV_Reader_readBlock 2 (pc' := 58) (L' := [some (.ref 66), none, none]) (st' := [.int 125, .ref 66]) rfl ?_
  exact z_callV (Gr := Gr) hg.2.2.1 fT oM_Reader_expect (oV_Reader_readBlock.1 (58, .invokevirtual 86) (ip_lk_mem rfl)) ⟨tt_4 _ (List.mem_of_getElem? (i := 19) rfl) rfl, tt_4 _ (List.mem_of_getElem? (i := 21) rfl) rfl, fS_Reader_expect⟩ (c := 34) (ci := 8) (As := [.int 125]) rfl rfl rfl (by decide) rfl (Nat.le_of_ble_eq_true rfl) k0 (fun v S' q => by obtain ⟨rfl, q⟩ := q; exact (z_forget (k1 _ q) trivial))
set_option maxRecDepth 100000 in
theorem b_Reader_readBlock_20 {l : Launch} {Gr : zG} {n w : Nat} {d : Nat} {S : zS} {Q : Option Value → zS → Prop} {x1 : Int32} {x2 : Int32}  (k0 : ¬ (S.1 3 5) = 0 → zW l Gr (zc n w) 168 M_Reader_readBlock (d + 1) 55 [some (.ref 66), none, none] [] S Q) (k1 : (S.1 3 5) = 0 → zW l Gr (zc n w) 168 M_Reader_readBlock (d + 1) 30 [some (.ref 66), some (.int x1), some (.int x2)] [] S Q) : zW l Gr (zc n w) 168 M_Reader_readBlock (d + 1) 20 [some (.ref 66), some (.int x1), some (.int x2)] [] S Q := by
  refine z_go (Gr := Gr) (zc := zc n w) (K := 168) oV_Reader_readBlock 3 (pc' := 27) (L' := [some (.ref 66), some (.int x1), some (.int x2)]) (st' := [.int (S.1 3 5)]) rfl ?_
  exact z_ifne (Gr := Gr) (tgt := 55) (oV_Reader_readBlock.1 (27, .ifCond .ne 28) (ip_lk_mem rfl)) (by decide) (fun q => (z_forget (k0 q) (And.intro rfl trivial))) (fun q => (k1 q))
set_option maxRecDepth 100000 in
theorem b_Reader_readBlock_61 {l : Launch} {Gr : zG} {n w : Nat} {d : Nat} {S : zS} {Q : Option Value → zS → Prop}   (k0 : Q none S) : zW l Gr (zc n w) 168 M_Reader_readBlock (d + 1) 61 [none, none, none] [] S Q := by
  exact z_ret (v := none) (oV_Reader_readBlock.1 (61, .return_) (ip_lk_mem rfl)) k0
set_option maxRecDepth 100000 in
theorem b_Reader_readBlock_30 {l : Launch} {Gr : zG} {n w : Nat} {d : Nat} {S : zS} {Q : Option Value → zS → Prop} {x1 : Int32} {x2 : Int32}  (k0 : (S.1 38 2) = 125 → zW l Gr (zc n w) 168 M_Reader_readBlock (d + 1) 55 [some (.ref 66), none, none] [] S Q) (k1 : ¬ (S.1 38 2) = 125 → zW l Gr (zc n w) 168 M_Reader_readBlock (d + 1) 42 [some (.ref 66), some (.int x1), some (.int x2)] [] S Q) : zW l Gr (zc n w) 168 M_Reader_readBlock (d + 1) 30 [some (.ref 66), some (.int x1), some (.int x2)] [] S Q := by
  refine z_go (Gr := Gr) (zc := zc n w) (K := 168) oV_Reader_readBlock 4 (pc' := 39) (L' := [some (.ref 66), some (.int x1), some (.int x2)]) (st' := [.int 125, .int (S.1 38 2)]) rfl ?_
  exact z_iceq (Gr := Gr) (tgt := 55) (oV_Reader_readBlock.1 (39, .if_icmp .eq 16) (ip_lk_mem rfl)) (by decide) (fun q => (z_forget (k0 q) (And.intro rfl trivial))) (fun q => (k1 q))
set_option maxRecDepth 100000 in
theorem b_Reader_readBlock_42 {l : Launch} {Gr : zG} {n w : Nat} {d : Nat} {S : zS} {Q : Option Value → zS → Prop} {R : zS → Prop} (hg : ip_gk (lg_tbl, vwCl, Gr)) {x1 : Int32} {x2 : Int32}  (k0 : zMv l Gr (zc n w) 168 M_Reader_readStatement d [.ref 66, .int (x1 + 1)] S R) (k1 : ∀ S', R S' → zW l Gr (zc n w) 168 M_Reader_readBlock (d + 1) 49 [some (.ref 66), some (.int x1), some (.int x2)] [] S' Q) : zW l Gr (zc n w) 168 M_Reader_readBlock (d + 1) 42 [some (.ref 66), some (.int x1), some (.int x2)] [] S Q := by
  refine z_go (Gr := Gr) (zc := zc n w) (K := 168) oV_Reader_readBlock 4 (pc' := 46) (L' := [some (.ref 66), some (.int x1), some (.int x2)]) (st' := [.int (x1 + 1), .ref 66]) rfl ?_
  exact z_callV (Gr := Gr) hg.2.2.1 fT oM_Reader_readStatement (oV_Reader_readBlock.1 (46, .invokevirtual 76) (ip_lk_mem rfl)) ⟨tt_4 _ (List.mem_of_getElem? (i := 128) rfl) rfl, tt_4 _ (List.mem_of_getElem? (i := 130) rfl) rfl, fS_Reader_readStatement⟩ (c := 34) (ci := 8) (As := [.int (x1 + 1)]) rfl rfl rfl (by decide) rfl (Nat.le_of_ble_eq_true rfl) k0 (fun v S' q => by obtain ⟨rfl, q⟩ := q; exact (k1 _ q))
set_option maxRecDepth 100000 in
theorem b_Reader_readBlock_49 {l : Launch} {Gr : zG} {n w : Nat} {d : Nat} {S : zS} {Q : Option Value → zS → Prop} {x1 : Int32} {x2 : Int32}  (k0 : zW l Gr (zc n w) 168 M_Reader_readBlock (d + 1) 13 [some (.ref 66), some (.int x1), some (.int (x2 + Int32.ofInt 1))] [] S Q) : zW l Gr (zc n w) 168 M_Reader_readBlock (d + 1) 49 [some (.ref 66), some (.int x1), some (.int x2)] [] S Q := by
  refine z_go (Gr := Gr) (zc := zc n w) (K := 168) oV_Reader_readBlock 2 (pc' := 13) (L' := [some (.ref 66), some (.int x1), some (.int (x2 + Int32.ofInt 1))]) (st' := []) rfl ?_
  exact k0
theorem e_Reader_readBlock {l : Launch} {Gr : zG} {n w : Nat} {d : Nat} {S : zS} {R : zS → Prop} {x1 : Int32} (k : zW l Gr (zc n w) 168 M_Reader_readBlock (d + 1) 0 [some (.ref 66), some (.int x1), none] [] S (fun v S' => v = none ∧ R S')) : zMv l Gr (zc n w) 168 M_Reader_readBlock (d + 1) [.ref 66, .int x1] S R := z_mv oM_Reader_readBlock rfl (Nat.le_of_ble_eq_true rfl) k
set_option maxRecDepth 100000 in
theorem b_Mo_closes_0 {l : Launch} {Gr : zG} {n w : Nat} {d : Nat} {S : zS} {Q : Option Value → zS → Prop} {x1 : Int32}  (k0 : (S.1 73 20) ≤ x1 → zW l Gr (zc n w) 168 M_Mo_closes (d + 1) 40 [some (.ref 105), some (.int x1), none, none, none, none, none] [] (zi S 73 25 0) Q) (k1 : ¬ (S.1 73 20) ≤ x1 → zW l Gr (zc n w) 168 M_Mo_closes (d + 1) 13 [some (.ref 105), some (.int x1), none, none, none, none, none] [] (zi S 73 25 0) Q) : zW l Gr (zc n w) 168 M_Mo_closes (d + 1) 0 [some (.ref 105), some (.int x1), none, none, none, none, none] [] S Q := by
  refine z_go (Gr := Gr) (zc := zc n w) (K := 168) oV_Mo_closes 2 (pc' := 2) (L' := [some (.ref 105), some (.int x1), none, none, none, none, none]) (st' := [.int 0, .ref 105]) rfl ?_
  refine z_putI (Gr := Gr) (c := 73) (oV_Mo_closes.1 (2, .putfield 463) (ip_lk_mem rfl)) (oV_Mo_closes.2.1 (463, 12, 25, .boolean, false) (ip_lk_mem rfl)).1 (by decide) (zo_73 _ _ _ _) (zs_73_25 _ _ _ _ _) (zn_73_25 _ _ _ _) (by decide) ?_
  refine z_go (Gr := Gr) (zc := zc n w) (K := 168) oV_Mo_closes 1 (pc' := 6) (L' := [some (.ref 105), some (.int x1), none, none, none, none, none]) (st' := [.ref 105]) rfl ?_
  refine z_getI (Gr := Gr) (c := 73) (oV_Mo_closes.1 (6, .getfield 417) (ip_lk_mem rfl)) (oV_Mo_closes.2.1 (417, 12, 20, .int, false) (ip_lk_mem rfl)).1 (by decide) (zo_73 _ _ _ _) (zg_73_20 _ _ _ _) (zi_k (by decide)) ?_
  refine z_go (Gr := Gr) (zc := zc n w) (K := 168) oV_Mo_closes 1 (pc' := 10) (L' := [some (.ref 105), some (.int x1), none, none, none, none, none]) (st' := [.int x1, .int (S.1 73 20)]) rfl ?_
  exact z_icle (Gr := Gr) (tgt := 40) (oV_Mo_closes.1 (10, .if_icmp .le 30) (ip_lk_mem rfl)) (by decide) (fun q => (k0 q)) (fun q => (k1 q))
set_option maxRecDepth 100000 in
theorem b_Mo_closes_40 {l : Launch} {Gr : zG} {n w : Nat} {d : Nat} {S : zS} {Q : Option Value → zS → Prop} {x1 : Int32}  (k0 : zW l Gr (zc n w) 168 M_Mo_closes (d + 1) 41 [some (.ref 105), some (.int x1), none, none, none, none, none] [.int 0] S Q) : zW l Gr (zc n w) 168 M_Mo_closes (d + 1) 40 [some (.ref 105), some (.int x1), none, none, none, none, none] [] S Q := by
  refine z_go (Gr := Gr) (zc := zc n w) (K := 168) oV_Mo_closes 1 (pc' := 41) (L' := [some (.ref 105), some (.int x1), none, none, none, none, none]) (st' := [.int 0]) rfl ?_
  exact k0
set_option maxRecDepth 100000 in
theorem b_Mo_closes_13 {l : Launch} {Gr : zG} {n w : Nat} {d : Nat} {S : zS} {Q : Option Value → zS → Prop} {x1 : Int32} (g0 : vp_in ((S.1 73 20) - 1) 4100) (k0 : ¬ (S.1 83 ((((S.1 73 20) - 1) : Int32).toNatClampNeg)) = 7 → zW l Gr (zc n w) 168 M_Mo_closes (d + 1) 40 [some (.ref 105), some (.int x1), none, none, none, none, none] [] S Q) (k1 : (S.1 83 ((((S.1 73 20) - 1) : Int32).toNatClampNeg)) = 7 → zW l Gr (zc n w) 168 M_Mo_closes (d + 1) 29 [some (.ref 105), some (.int x1), none, none, none, none, none] [] S Q) : zW l Gr (zc n w) 168 M_Mo_closes (d + 1) 13 [some (.ref 105), some (.int x1), none, none, none, none, none] [] S Q := by
  refine z_go (Gr := Gr) (zc := zc n w) (K := 168) oV_Mo_closes 6 (pc' := 23) (L' := [some (.ref 105), some (.int x1), none, none, none, none, none]) (st' := [.int ((S.1 73 20) - 1), .ref 115]) rfl ?_
  refine z_iald (Gr := Gr) (c := 83) (oV_Mo_closes.1 (23, .iaload) (ip_lk_mem rfl)) (by decide) rfl g0 ?_
  refine z_go (Gr := Gr) (zc := zc n w) (K := 168) oV_Mo_closes 1 (pc' := 26) (L' := [some (.ref 105), some (.int x1), none, none, none, none, none]) (st' := [.int 7, .int (S.1 83 ((((S.1 73 20) - 1) : Int32).toNatClampNeg))]) rfl ?_
  exact z_icne (Gr := Gr) (tgt := 40) (oV_Mo_closes.1 (26, .if_icmp .ne 14) (ip_lk_mem rfl)) (by decide) (fun q => (k0 q)) (fun q => (k1 q))
set_option maxRecDepth 100000 in
theorem b_Mo_closes_41 {l : Launch} {Gr : zG} {n w : Nat} {d : Nat} {S : zS} {Q : Option Value → zS → Prop} {x1 : Int32} {s0 : Int32}  (k0 : ¬ s0 = 0 → zW l Gr (zc n w) 168 M_Mo_closes (d + 1) 51 [some (.ref 105), some (.int x1), some (.int s0), none, none, none, none] [] S Q) (k1 : s0 = 0 → zW l Gr (zc n w) 168 M_Mo_closes (d + 1) 46 [some (.ref 105), some (.int x1), some (.int s0), none, none, none, none] [] S Q) : zW l Gr (zc n w) 168 M_Mo_closes (d + 1) 41 [some (.ref 105), some (.int x1), none, none, none, none, none] [.int s0] S Q := by
  refine z_go (Gr := Gr) (zc := zc n w) (K := 168) oV_Mo_closes 2 (pc' := 43) (L' := [some (.ref 105), some (.int x1), some (.int s0), none, none, none, none]) (st' := [.int s0]) rfl ?_
  exact z_ifne (Gr := Gr) (tgt := 51) (oV_Mo_closes.1 (43, .ifCond .ne 8) (ip_lk_mem rfl)) (by decide) (fun q => (k0 q)) (fun q => (k1 q))
set_option maxRecDepth 100000 in
theorem b_Mo_closes_29 {l : Launch} {Gr : zG} {n w : Nat} {d : Nat} {S : zS} {Q : Option Value → zS → Prop} {R : Int32 → zS → Prop} (hg : ip_gk (lg_tbl, vwCl, Gr)) {x1 : Int32}  (k0 : zMi l Gr (zc n w) 168 M_Mo_isFresh d [.ref 105] S R) (k1 : ∀ v S', R v S' → zW l Gr (zc n w) 168 M_Mo_closes (d + 1) 33 [some (.ref 105), some (.int x1), none, none, none, none, none] [.int v] S' Q) : zW l Gr (zc n w) 168 M_Mo_closes (d + 1) 29 [some (.ref 105), some (.int x1), none, none, none, none, none] [] S Q := by
  refine z_go (Gr := Gr) (zc := zc n w) (K := 168) oV_Mo_closes 1 (pc' := 30) (L' := [some (.ref 105), some (.int x1), none, none, none, none, none]) (st' := [.ref 105]) rfl ?_
  exact z_callV (Gr := Gr) hg.2.2.1 fT oM_Mo_isFresh (oV_Mo_closes.1 (30, .invokevirtual 457) (ip_lk_mem rfl)) ⟨tt_9 _ (List.mem_of_getElem? (i := 141) rfl) rfl, tt_9 _ (List.mem_of_getElem? (i := 143) rfl) rfl, fS_Mo_isFresh⟩ (c := 73) (ci := 12) (As := []) rfl rfl rfl (by decide) rfl (Nat.le_of_ble_eq_true rfl) k0 (fun v S' q => by obtain ⟨x, rfl, q⟩ := q; exact (k1 _ _ q))
set_option maxRecDepth 100000 in
theorem b_Mo_closes_51 {l : Launch} {Gr : zG} {n w : Nat} {d : Nat} {S : zS} {Q : Option Value → zS → Prop} {x1 : Int32} {x2 : Int32}  (k0 : ¬ (S.1 73 20) = x1 → zW l Gr (zc n w) 168 M_Mo_closes (d + 1) 61 [some (.ref 105), some (.int x1), some (.int x2), none, none, none, none] [] S Q) (k1 : (S.1 73 20) = x1 → zW l Gr (zc n w) 168 M_Mo_closes (d + 1) 59 [none, none, none, none, none, none, none] [] S Q) : zW l Gr (zc n w) 168 M_Mo_closes (d + 1) 51 [some (.ref 105), some (.int x1), some (.int x2), none, none, none, none] [] S Q := by
  refine z_go (Gr := Gr) (zc := zc n w) (K := 168) oV_Mo_closes 3 (pc' := 56) (L' := [some (.ref 105), some (.int x1), some (.int x2), none, none, none, none]) (st' := [.int x1, .int (S.1 73 20)]) rfl ?_
  exact z_icne (Gr := Gr) (tgt := 61) (oV_Mo_closes.1 (56, .if_icmp .ne 5) (ip_lk_mem rfl)) (by decide) (fun q => (k0 q)) (fun q => (z_forget (k1 q) trivial))
set_option maxRecDepth 100000 in
theorem b_Mo_closes_46 {l : Launch} {Gr : zG} {n w : Nat} {d : Nat} {S : zS} {Q : Option Value → zS → Prop} {R : zS → Prop} (hg : ip_gk (lg_tbl, vwCl, Gr)) {x1 : Int32} {x2 : Int32}  (k0 : zMv l Gr (zc n w) 168 M_Mo_reduceAll d [.ref 105, .int x1] S R) (k1 : ∀ S', R S' → zW l Gr (zc n w) 168 M_Mo_closes (d + 1) 51 [some (.ref 105), some (.int x1), some (.int x2), none, none, none, none] [] S' Q) : zW l Gr (zc n w) 168 M_Mo_closes (d + 1) 46 [some (.ref 105), some (.int x1), some (.int x2), none, none, none, none] [] S Q := by
  refine z_go (Gr := Gr) (zc := zc n w) (K := 168) oV_Mo_closes 2 (pc' := 48) (L' := [some (.ref 105), some (.int x1), some (.int x2), none, none, none, none]) (st' := [.int x1, .ref 105]) rfl ?_
  exact z_callV (Gr := Gr) hg.2.2.1 fT oM_Mo_reduceAll (oV_Mo_closes.1 (48, .invokevirtual 467) (ip_lk_mem rfl)) ⟨tt_9 _ (List.mem_of_getElem? (i := 156) rfl) rfl, tt_9 _ (List.mem_of_getElem? (i := 158) rfl) rfl, fS_Mo_reduceAll⟩ (c := 73) (ci := 12) (As := [.int x1]) rfl rfl rfl (by decide) rfl (Nat.le_of_ble_eq_true rfl) k0 (fun v S' q => by obtain ⟨rfl, q⟩ := q; exact (k1 _ q))
set_option maxRecDepth 100000 in
theorem b_Mo_closes_33 {l : Launch} {Gr : zG} {n w : Nat} {d : Nat} {S : zS} {Q : Option Value → zS → Prop} {x1 : Int32} {s0 : Int32}  (k0 : s0 = 0 → zW l Gr (zc n w) 168 M_Mo_closes (d + 1) 40 [some (.ref 105), some (.int x1), none, none, none, none, none] [] S Q) (k1 : ¬ s0 = 0 → zW l Gr (zc n w) 168 M_Mo_closes (d + 1) 36 [some (.ref 105), some (.int x1), none, none, none, none, none] [] S Q) : zW l Gr (zc n w) 168 M_Mo_closes (d + 1) 33 [some (.ref 105), some (.int x1), none, none, none, none, none] [.int s0] S Q := by
  exact z_ifeq (Gr := Gr) (tgt := 40) (oV_Mo_closes.1 (33, .ifCond .eq 7) (ip_lk_mem rfl)) (by decide) (fun q => (k0 q)) (fun q => (k1 q))
set_option maxRecDepth 100000 in
theorem b_Mo_closes_61 {l : Launch} {Gr : zG} {n w : Nat} {d : Nat} {S : zS} {Q : Option Value → zS → Prop} {R : Int32 → zS → Prop} (hg : ip_gk (lg_tbl, vwCl, Gr)) {x1 : Int32} {x2 : Int32} (g0 : vp_in ((S.1 73 20) - 1) 4100) (k0 : zMi l Gr (zc n w) 168 M_Mo_isSign d [.ref 105, .int 58] S R) (k1 : ∀ v S', R v S' → zW l Gr (zc n w) 168 M_Mo_closes (d + 1) 79 [some (.ref 105), some (.int x1), some (.int x2), some (.int (S.1 83 ((((S.1 73 20) - 1) : Int32).toNatClampNeg))), none, none, none] [.int v] S' Q) : zW l Gr (zc n w) 168 M_Mo_closes (d + 1) 61 [some (.ref 105), some (.int x1), some (.int x2), none, none, none, none] [] S Q := by
  refine z_go (Gr := Gr) (zc := zc n w) (K := 168) oV_Mo_closes 6 (pc' := 71) (L' := [some (.ref 105), some (.int x1), some (.int x2), none, none, none, none]) (st' := [.int ((S.1 73 20) - 1), .ref 115]) rfl ?_
  refine z_iald (Gr := Gr) (c := 83) (oV_Mo_closes.1 (71, .iaload) (ip_lk_mem rfl)) (by decide) rfl g0 ?_
  refine z_go (Gr := Gr) (zc := zc n w) (K := 168) oV_Mo_closes 3 (pc' := 76) (L' := [some (.ref 105), some (.int x1), some (.int x2), some (.int (S.1 83 ((((S.1 73 20) - 1) : Int32).toNatClampNeg))), none, none, none]) (st' := [.int 58, .ref 105]) rfl ?_
  exact z_callV (Gr := Gr) hg.2.2.1 fT oM_Mo_isSign (oV_Mo_closes.1 (76, .invokevirtual 408) (ip_lk_mem rfl)) ⟨tt_9 _ (List.mem_of_getElem? (i := 49) rfl) rfl, tt_9 _ (List.mem_of_getElem? (i := 51) rfl) rfl, fS_Mo_isSign⟩ (c := 73) (ci := 12) (As := [.int 58]) rfl rfl rfl (by decide) rfl (Nat.le_of_ble_eq_true rfl) k0 (fun v S' q => by obtain ⟨x, rfl, q⟩ := q; exact (k1 _ _ q))
set_option maxRecDepth 100000 in
theorem b_Mo_closes_59 {l : Launch} {Gr : zG} {n w : Nat} {d : Nat} {S : zS} {Q : Option Value → zS → Prop}   (k0 : Q (some (.int 0)) S) : zW l Gr (zc n w) 168 M_Mo_closes (d + 1) 59 [none, none, none, none, none, none, none] [] S Q := by
  refine z_go (Gr := Gr) (zc := zc n w) (K := 168) oV_Mo_closes 1 (pc' := 60) (L' := [none, none, none, none, none, none, none]) (st' := [.int 0]) rfl ?_
  exact z_ret (v := (some (.int 0))) (oV_Mo_closes.1 (60, .ireturn) (ip_lk_mem rfl)) k0
set_option maxRecDepth 100000 in
theorem b_Mo_closes_36 {l : Launch} {Gr : zG} {n w : Nat} {d : Nat} {S : zS} {Q : Option Value → zS → Prop} {x1 : Int32}  (k0 : zW l Gr (zc n w) 168 M_Mo_closes (d + 1) 41 [some (.ref 105), some (.int x1), none, none, none, none, none] [.int 1] S Q) : zW l Gr (zc n w) 168 M_Mo_closes (d + 1) 36 [some (.ref 105), some (.int x1), none, none, none, none, none] [] S Q := by
  refine z_go (Gr := Gr) (zc := zc n w) (K := 168) oV_Mo_closes 2 (pc' := 41) (L' := [some (.ref 105), some (.int x1), none, none, none, none, none]) (st' := [.int 1]) rfl ?_
  exact k0
set_option maxRecDepth 100000 in
theorem b_Mo_closes_79 {l : Launch} {Gr : zG} {n w : Nat} {d : Nat} {S : zS} {Q : Option Value → zS → Prop} {x1 : Int32} {x2 : Int32} {x3 : Int32} {s0 : Int32}  (k0 : s0 = 0 → zW l Gr (zc n w) 168 M_Mo_closes (d + 1) 116 [some (.ref 105), some (.int x1), some (.int x2), some (.int x3), none, none, none] [] S Q) (k1 : ¬ s0 = 0 → zW l Gr (zc n w) 168 M_Mo_closes (d + 1) 82 [some (.ref 105), some (.int x1), some (.int x2), some (.int x3), none, none, none] [] S Q) : zW l Gr (zc n w) 168 M_Mo_closes (d + 1) 79 [some (.ref 105), some (.int x1), some (.int x2), some (.int x3), none, none, none] [.int s0] S Q := by
  exact z_ifeq (Gr := Gr) (tgt := 116) (oV_Mo_closes.1 (79, .ifCond .eq 37) (ip_lk_mem rfl)) (by decide) (fun q => (k0 q)) (fun q => (k1 q))
set_option maxRecDepth 100000 in
theorem b_Mo_closes_116 {l : Launch} {Gr : zG} {n w : Nat} {d : Nat} {S : zS} {Q : Option Value → zS → Prop} {R : Int32 → zS → Prop} (hg : ip_gk (lg_tbl, vwCl, Gr)) {x1 : Int32} {x2 : Int32} {x3 : Int32}  (k0 : zMi l Gr (zc n w) 168 M_Mo_isSign d [.ref 105, .int 44] S R) (k1 : ∀ v S', R v S' → zW l Gr (zc n w) 168 M_Mo_closes (d + 1) 122 [some (.ref 105), some (.int x1), some (.int x2), some (.int x3), none, none, none] [.int v] S' Q) : zW l Gr (zc n w) 168 M_Mo_closes (d + 1) 116 [some (.ref 105), some (.int x1), some (.int x2), some (.int x3), none, none, none] [] S Q := by
  refine z_go (Gr := Gr) (zc := zc n w) (K := 168) oV_Mo_closes 2 (pc' := 119) (L' := [some (.ref 105), some (.int x1), some (.int x2), some (.int x3), none, none, none]) (st' := [.int 44, .ref 105]) rfl ?_
  exact z_callV (Gr := Gr) hg.2.2.1 fT oM_Mo_isSign (oV_Mo_closes.1 (119, .invokevirtual 408) (ip_lk_mem rfl)) ⟨tt_9 _ (List.mem_of_getElem? (i := 49) rfl) rfl, tt_9 _ (List.mem_of_getElem? (i := 51) rfl) rfl, fS_Mo_isSign⟩ (c := 73) (ci := 12) (As := [.int 44]) rfl rfl rfl (by decide) rfl (Nat.le_of_ble_eq_true rfl) k0 (fun v S' q => by obtain ⟨x, rfl, q⟩ := q; exact (k1 _ _ q))
set_option maxRecDepth 100000 in
theorem b_Mo_closes_82 {l : Launch} {Gr : zG} {n w : Nat} {d : Nat} {S : zS} {Q : Option Value → zS → Prop} {x1 : Int32} {x2 : Int32} {x3 : Int32}  (k0 : ¬ x3 = 3 → zW l Gr (zc n w) 168 M_Mo_closes (d + 1) 116 [some (.ref 105), some (.int x1), some (.int x2), some (.int x3), none, none, none] [] S Q) (k1 : x3 = 3 → zW l Gr (zc n w) 168 M_Mo_closes (d + 1) 87 [some (.ref 105), none, none, none, none, none, none] [] S Q) : zW l Gr (zc n w) 168 M_Mo_closes (d + 1) 82 [some (.ref 105), some (.int x1), some (.int x2), some (.int x3), none, none, none] [] S Q := by
  refine z_go (Gr := Gr) (zc := zc n w) (K := 168) oV_Mo_closes 2 (pc' := 84) (L' := [some (.ref 105), some (.int x1), some (.int x2), some (.int x3), none, none, none]) (st' := [.int 3, .int x3]) rfl ?_
  exact z_icne (Gr := Gr) (tgt := 116) (oV_Mo_closes.1 (84, .if_icmp .ne 32) (ip_lk_mem rfl)) (by decide) (fun q => (k0 q)) (fun q => (z_forget (k1 q) (And.intro rfl trivial)))
set_option maxRecDepth 100000 in
theorem b_Mo_closes_122 {l : Launch} {Gr : zG} {n w : Nat} {d : Nat} {S : zS} {Q : Option Value → zS → Prop} {x1 : Int32} {x2 : Int32} {x3 : Int32} {s0 : Int32}  (k0 : s0 = 0 → zW l Gr (zc n w) 168 M_Mo_closes (d + 1) 221 [some (.ref 105), some (.int x1), some (.int x2), some (.int x3), none, none, none] [] S Q) (k1 : ¬ s0 = 0 → zW l Gr (zc n w) 168 M_Mo_closes (d + 1) 125 [some (.ref 105), some (.int x1), some (.int x2), some (.int x3), none, none, none] [] S Q) : zW l Gr (zc n w) 168 M_Mo_closes (d + 1) 122 [some (.ref 105), some (.int x1), some (.int x2), some (.int x3), none, none, none] [.int s0] S Q := by
  exact z_ifeq (Gr := Gr) (tgt := 221) (oV_Mo_closes.1 (122, .ifCond .eq 99) (ip_lk_mem rfl)) (by decide) (fun q => (k0 q)) (fun q => (k1 q))
set_option maxRecDepth 100000 in
theorem b_Mo_closes_87 {l : Launch} {Gr : zG} {n w : Nat} {d : Nat} {S : zS} {Q : Option Value → zS → Prop}  (g0 : vp_in ((S.1 73 20) - 1) 4100) (k0 : Q (some (.int 1)) (zi (zi (zi S 83 ((((S.1 73 20) - 1) : Int32).toNatClampNeg) 4) 73 6 ((S.1 73 6) + 1)) 73 25 1)) : zW l Gr (zc n w) 168 M_Mo_closes (d + 1) 87 [some (.ref 105), none, none, none, none, none, none] [] S Q := by
  refine z_go (Gr := Gr) (zc := zc n w) (K := 168) oV_Mo_closes 7 (pc' := 98) (L' := [some (.ref 105), none, none, none, none, none, none]) (st' := [.int 4, .int ((S.1 73 20) - 1), .ref 115]) rfl ?_
  refine z_iast (Gr := Gr) (c := 83) (oV_Mo_closes.1 (98, .iastore) (ip_lk_mem rfl)) (by decide) (fun _ => rfl) g0 ?_
  refine z_go (Gr := Gr) (zc := zc n w) (K := 168) oV_Mo_closes 2 (pc' := 101) (L' := [some (.ref 105), none, none, none, none, none, none]) (st' := [.ref 105, .ref 105]) rfl ?_
  refine z_getI (Gr := Gr) (c := 73) (oV_Mo_closes.1 (101, .getfield 326) (ip_lk_mem rfl)) (oV_Mo_closes.2.1 (326, 12, 6, .int, false) (ip_lk_mem rfl)).1 (by decide) (zo_73 _ _ _ _) (zg_73_6 _ _ _ _) (zi_c (by decide)) ?_
  refine z_go (Gr := Gr) (zc := zc n w) (K := 168) oV_Mo_closes 2 (pc' := 106) (L' := [some (.ref 105), none, none, none, none, none, none]) (st' := [.int ((S.1 73 6) + 1), .ref 105]) rfl ?_
  refine z_putI (Gr := Gr) (c := 73) (oV_Mo_closes.1 (106, .putfield 326) (ip_lk_mem rfl)) (oV_Mo_closes.2.1 (326, 12, 6, .int, false) (ip_lk_mem rfl)).1 (by decide) (zo_73 _ _ _ _) (zs_73_6 _ _ _ _ _) (zn_73_6 _ _ _ _) rfl ?_
  refine z_go (Gr := Gr) (zc := zc n w) (K := 168) oV_Mo_closes 2 (pc' := 111) (L' := [some (.ref 105), none, none, none, none, none, none]) (st' := [.int 1, .ref 105]) rfl ?_
  refine z_putI (Gr := Gr) (c := 73) (oV_Mo_closes.1 (111, .putfield 463) (ip_lk_mem rfl)) (oV_Mo_closes.2.1 (463, 12, 25, .boolean, false) (ip_lk_mem rfl)).1 (by decide) (zo_73 _ _ _ _) (zs_73_25 _ _ _ _ _) (zn_73_25 _ _ _ _) (by decide) ?_
  refine z_go (Gr := Gr) (zc := zc n w) (K := 168) oV_Mo_closes 1 (pc' := 115) (L' := [some (.ref 105), none, none, none, none, none, none]) (st' := [.int 1]) rfl ?_
  exact z_ret (v := (some (.int 1))) (oV_Mo_closes.1 (115, .ireturn) (ip_lk_mem rfl)) k0
set_option maxRecDepth 100000 in
theorem b_Mo_closes_221 {l : Launch} {Gr : zG} {n w : Nat} {d : Nat} {S : zS} {Q : Option Value → zS → Prop} {R : Int32 → zS → Prop} (hg : ip_gk (lg_tbl, vwCl, Gr)) {x1 : Int32} {x2 : Int32} {x3 : Int32}  (k0 : zMi l Gr (zc n w) 168 M_Mo_isSign d [.ref 105, .int 41] S R) (k1 : ∀ v S', R v S' → zW l Gr (zc n w) 168 M_Mo_closes (d + 1) 227 [some (.ref 105), some (.int x1), some (.int x2), some (.int x3), none, none, none] [.int v] S' Q) : zW l Gr (zc n w) 168 M_Mo_closes (d + 1) 221 [some (.ref 105), some (.int x1), some (.int x2), some (.int x3), none, none, none] [] S Q := by
  refine z_go (Gr := Gr) (zc := zc n w) (K := 168) oV_Mo_closes 2 (pc' := 224) (L' := [some (.ref 105), some (.int x1), some (.int x2), some (.int x3), none, none, none]) (st' := [.int 41, .ref 105]) rfl ?_
  exact z_callV (Gr := Gr) hg.2.2.1 fT oM_Mo_isSign (oV_Mo_closes.1 (224, .invokevirtual 408) (ip_lk_mem rfl)) ⟨tt_9 _ (List.mem_of_getElem? (i := 49) rfl) rfl, tt_9 _ (List.mem_of_getElem? (i := 51) rfl) rfl, fS_Mo_isSign⟩ (c := 73) (ci := 12) (As := [.int 41]) rfl rfl rfl (by decide) rfl (Nat.le_of_ble_eq_true rfl) k0 (fun v S' q => by obtain ⟨x, rfl, q⟩ := q; exact (k1 _ _ q))
set_option maxRecDepth 100000 in
theorem b_Mo_closes_125 {l : Launch} {Gr : zG} {n w : Nat} {d : Nat} {S : zS} {Q : Option Value → zS → Prop} {x1 : Int32} {x2 : Int32} {x3 : Int32}  (k0 : ¬ x3 = 7 → zW l Gr (zc n w) 168 M_Mo_closes (d + 1) 135 [some (.ref 105), some (.int x1), some (.int x2), some (.int x3), none, none, none] [] S Q) (k1 : x3 = 7 → zW l Gr (zc n w) 168 M_Mo_closes (d + 1) 131 [some (.ref 105), some (.int x1), some (.int x2), some (.int x3), none, none, none] [] S Q) : zW l Gr (zc n w) 168 M_Mo_closes (d + 1) 125 [some (.ref 105), some (.int x1), some (.int x2), some (.int x3), none, none, none] [] S Q := by
  refine z_go (Gr := Gr) (zc := zc n w) (K := 168) oV_Mo_closes 2 (pc' := 128) (L' := [some (.ref 105), some (.int x1), some (.int x2), some (.int x3), none, none, none]) (st' := [.int 7, .int x3]) rfl ?_
  exact z_icne (Gr := Gr) (tgt := 135) (oV_Mo_closes.1 (128, .if_icmp .ne 7) (ip_lk_mem rfl)) (by decide) (fun q => (k0 q)) (fun q => (k1 q))
set_option maxRecDepth 100000 in
theorem b_Mo_closes_227 {l : Launch} {Gr : zG} {n w : Nat} {d : Nat} {S : zS} {Q : Option Value → zS → Prop} {x1 : Int32} {x2 : Int32} {x3 : Int32} {s0 : Int32}  (k0 : s0 = 0 → zW l Gr (zc n w) 168 M_Mo_closes (d + 1) 268 [some (.ref 105), some (.int x1), some (.int x2), some (.int x3), none, none, none] [] S Q) (k1 : ¬ s0 = 0 → zW l Gr (zc n w) 168 M_Mo_closes (d + 1) 230 [some (.ref 105), some (.int x1), some (.int x2), some (.int x3), none, none, none] [] S Q) : zW l Gr (zc n w) 168 M_Mo_closes (d + 1) 227 [some (.ref 105), some (.int x1), some (.int x2), some (.int x3), none, none, none] [.int s0] S Q := by
  exact z_ifeq (Gr := Gr) (tgt := 268) (oV_Mo_closes.1 (227, .ifCond .eq 41) (ip_lk_mem rfl)) (by decide) (fun q => (k0 q)) (fun q => (k1 q))
set_option maxRecDepth 100000 in
theorem b_Mo_closes_135 {l : Launch} {Gr : zG} {n w : Nat} {d : Nat} {S : zS} {Q : Option Value → zS → Prop} {x1 : Int32} {x2 : Int32} {x3 : Int32}  (k0 : ¬ x3 = 9 → zW l Gr (zc n w) 168 M_Mo_closes (d + 1) 221 [some (.ref 105), some (.int x1), some (.int x2), some (.int x3), none, none, none] [] S Q) (k1 : x3 = 9 → zW l Gr (zc n w) 168 M_Mo_closes (d + 1) 141 [some (.ref 105), some (.int x1), some (.int x2), some (.int x3), none, none, none] [] S Q) : zW l Gr (zc n w) 168 M_Mo_closes (d + 1) 135 [some (.ref 105), some (.int x1), some (.int x2), some (.int x3), none, none, none] [] S Q := by
  refine z_go (Gr := Gr) (zc := zc n w) (K := 168) oV_Mo_closes 2 (pc' := 138) (L' := [some (.ref 105), some (.int x1), some (.int x2), some (.int x3), none, none, none]) (st' := [.int 9, .int x3]) rfl ?_
  exact z_icne (Gr := Gr) (tgt := 221) (oV_Mo_closes.1 (138, .if_icmp .ne 83) (ip_lk_mem rfl)) (by decide) (fun q => (k0 q)) (fun q => (k1 q))
set_option maxRecDepth 100000 in
theorem b_Mo_closes_131 {l : Launch} {Gr : zG} {n w : Nat} {d : Nat} {S : zS} {Q : Option Value → zS → Prop} {x1 : Int32} {x2 : Int32} {x3 : Int32}  (k0 : x2 = 0 → zW l Gr (zc n w) 168 M_Mo_closes (d + 1) 155 [some (.ref 105), none, none, some (.int x3), none, none, none] [] S Q) (k1 : ¬ x2 = 0 → zW l Gr (zc n w) 168 M_Mo_closes (d + 1) 135 [some (.ref 105), some (.int x1), some (.int x2), some (.int x3), none, none, none] [] S Q) : zW l Gr (zc n w) 168 M_Mo_closes (d + 1) 131 [some (.ref 105), some (.int x1), some (.int x2), some (.int x3), none, none, none] [] S Q := by
  refine z_go (Gr := Gr) (zc := zc n w) (K := 168) oV_Mo_closes 1 (pc' := 132) (L' := [some (.ref 105), some (.int x1), some (.int x2), some (.int x3), none, none, none]) (st' := [.int x2]) rfl ?_
  exact z_ifeq (Gr := Gr) (tgt := 155) (oV_Mo_closes.1 (132, .ifCond .eq 23) (ip_lk_mem rfl)) (by decide) (fun q => (z_forget (k0 q) (And.intro rfl (And.intro rfl trivial)))) (fun q => (k1 q))
set_option maxRecDepth 100000 in
theorem b_Mo_closes_268 {l : Launch} {Gr : zG} {n w : Nat} {d : Nat} {S : zS} {Q : Option Value → zS → Prop} {R : Int32 → zS → Prop} (hg : ip_gk (lg_tbl, vwCl, Gr)) {x1 : Int32} {x2 : Int32} {x3 : Int32}  (k0 : zMi l Gr (zc n w) 168 M_Mo_isSign d [.ref 105, .int 93] S R) (k1 : ∀ v S', R v S' → zW l Gr (zc n w) 168 M_Mo_closes (d + 1) 274 [some (.ref 105), some (.int x1), some (.int x2), some (.int x3), none, none, none] [.int v] S' Q) : zW l Gr (zc n w) 168 M_Mo_closes (d + 1) 268 [some (.ref 105), some (.int x1), some (.int x2), some (.int x3), none, none, none] [] S Q := by
  refine z_go (Gr := Gr) (zc := zc n w) (K := 168) oV_Mo_closes 2 (pc' := 271) (L' := [some (.ref 105), some (.int x1), some (.int x2), some (.int x3), none, none, none]) (st' := [.int 93, .ref 105]) rfl ?_
  exact z_callV (Gr := Gr) hg.2.2.1 fT oM_Mo_isSign (oV_Mo_closes.1 (271, .invokevirtual 408) (ip_lk_mem rfl)) ⟨tt_9 _ (List.mem_of_getElem? (i := 49) rfl) rfl, tt_9 _ (List.mem_of_getElem? (i := 51) rfl) rfl, fS_Mo_isSign⟩ (c := 73) (ci := 12) (As := [.int 93]) rfl rfl rfl (by decide) rfl (Nat.le_of_ble_eq_true rfl) k0 (fun v S' q => by obtain ⟨x, rfl, q⟩ := q; exact (k1 _ _ q))
set_option maxRecDepth 100000 in
theorem b_Mo_closes_230 {l : Launch} {Gr : zG} {n w : Nat} {d : Nat} {S : zS} {Q : Option Value → zS → Prop} {x1 : Int32} {x2 : Int32} {x3 : Int32}  (k0 : x3 = 5 → zW l Gr (zc n w) 168 M_Mo_closes (d + 1) 283 [some (.ref 105), some (.int x1), some (.int x2), some (.int x3), none, none, none] [] S Q) (k1 : ¬ x3 = 5 → zW l Gr (zc n w) 168 M_Mo_closes (d + 1) 235 [some (.ref 105), some (.int x1), some (.int x2), some (.int x3), none, none, none] [] S Q) : zW l Gr (zc n w) 168 M_Mo_closes (d + 1) 230 [some (.ref 105), some (.int x1), some (.int x2), some (.int x3), none, none, none] [] S Q := by
  refine z_go (Gr := Gr) (zc := zc n w) (K := 168) oV_Mo_closes 2 (pc' := 232) (L' := [some (.ref 105), some (.int x1), some (.int x2), some (.int x3), none, none, none]) (st' := [.int 5, .int x3]) rfl ?_
  exact z_iceq (Gr := Gr) (tgt := 283) (oV_Mo_closes.1 (232, .if_icmp .eq 51) (ip_lk_mem rfl)) (by decide) (fun q => (k0 q)) (fun q => (k1 q))
set_option maxRecDepth 100000 in
theorem b_Mo_closes_141 {l : Launch} {Gr : zG} {n w : Nat} {d : Nat} {S : zS} {Q : Option Value → zS → Prop} {x1 : Int32} {x2 : Int32} {x3 : Int32} (g0 : vp_in ((S.1 73 20) - 1) 4100) (k0 : ¬ (S.1 86 ((((S.1 73 20) - 1) : Int32).toNatClampNeg)) = 0 → zW l Gr (zc n w) 168 M_Mo_closes (d + 1) 221 [some (.ref 105), some (.int x1), some (.int x2), some (.int x3), none, none, none] [] S Q) (k1 : (S.1 86 ((((S.1 73 20) - 1) : Int32).toNatClampNeg)) = 0 → zW l Gr (zc n w) 168 M_Mo_closes (d + 1) 155 [some (.ref 105), none, none, some (.int x3), none, none, none] [] S Q) : zW l Gr (zc n w) 168 M_Mo_closes (d + 1) 141 [some (.ref 105), some (.int x1), some (.int x2), some (.int x3), none, none, none] [] S Q := by
  refine z_go (Gr := Gr) (zc := zc n w) (K := 168) oV_Mo_closes 6 (pc' := 151) (L' := [some (.ref 105), some (.int x1), some (.int x2), some (.int x3), none, none, none]) (st' := [.int ((S.1 73 20) - 1), .ref 118]) rfl ?_
  refine z_iald (Gr := Gr) (c := 86) (oV_Mo_closes.1 (151, .iaload) (ip_lk_mem rfl)) (by decide) rfl g0 ?_
  exact z_ifne (Gr := Gr) (tgt := 221) (oV_Mo_closes.1 (152, .ifCond .ne 69) (ip_lk_mem rfl)) (by decide) (fun q => (k0 q)) (fun q => (z_forget (k1 q) (And.intro rfl (And.intro rfl trivial))))
set_option maxRecDepth 100000 in
theorem b_Mo_closes_155 {l : Launch} {Gr : zG} {n w : Nat} {d : Nat} {S : zS} {Q : Option Value → zS → Prop} {x3 : Int32}  (k0 : ¬ x3 = 7 → zW l Gr (zc n w) 168 M_Mo_closes (d + 1) 178 [some (.ref 105), none, none, none, none, none, none] [.int 16, .ref 105] S Q) (k1 : x3 = 7 → zW l Gr (zc n w) 168 M_Mo_closes (d + 1) 164 [some (.ref 105), none, none, none, none, none, none] [.int 16, .ref 105] S Q) : zW l Gr (zc n w) 168 M_Mo_closes (d + 1) 155 [some (.ref 105), none, none, some (.int x3), none, none, none] [] S Q := by
  refine z_go (Gr := Gr) (zc := zc n w) (K := 168) oV_Mo_closes 4 (pc' := 161) (L' := [some (.ref 105), none, none, some (.int x3), none, none, none]) (st' := [.int 7, .int x3, .int 16, .ref 105]) rfl ?_
  exact z_icne (Gr := Gr) (tgt := 178) (oV_Mo_closes.1 (161, .if_icmp .ne 17) (ip_lk_mem rfl)) (by decide) (fun q => (z_forget (k0 q) (And.intro rfl trivial))) (fun q => (z_forget (k1 q) (And.intro rfl trivial)))
set_option maxRecDepth 100000 in
theorem b_Mo_closes_274 {l : Launch} {Gr : zG} {n w : Nat} {d : Nat} {S : zS} {Q : Option Value → zS → Prop} {x1 : Int32} {x2 : Int32} {x3 : Int32} {s0 : Int32}  (k0 : s0 = 0 → zW l Gr (zc n w) 168 M_Mo_closes (d + 1) 287 [some (.ref 105), some (.int x1), some (.int x2), some (.int x3), none, none, none] [] S Q) (k1 : ¬ s0 = 0 → zW l Gr (zc n w) 168 M_Mo_closes (d + 1) 277 [some (.ref 105), some (.int x1), some (.int x2), some (.int x3), none, none, none] [] S Q) : zW l Gr (zc n w) 168 M_Mo_closes (d + 1) 274 [some (.ref 105), some (.int x1), some (.int x2), some (.int x3), none, none, none] [.int s0] S Q := by
  exact z_ifeq (Gr := Gr) (tgt := 287) (oV_Mo_closes.1 (274, .ifCond .eq 13) (ip_lk_mem rfl)) (by decide) (fun q => (k0 q)) (fun q => (k1 q))
set_option maxRecDepth 100000 in
theorem b_Mo_closes_283 {l : Launch} {Gr : zG} {n w : Nat} {d : Nat} {S : zS} {Q : Option Value → zS → Prop} {x1 : Int32} {x2 : Int32} {x3 : Int32}  (k0 : zW l Gr (zc n w) 168 M_Mo_closes (d + 1) 288 [some (.ref 105), some (.int x1), some (.int x2), some (.int x3), none, none, none] [.int 1] S Q) : zW l Gr (zc n w) 168 M_Mo_closes (d + 1) 283 [some (.ref 105), some (.int x1), some (.int x2), some (.int x3), none, none, none] [] S Q := by
  refine z_go (Gr := Gr) (zc := zc n w) (K := 168) oV_Mo_closes 2 (pc' := 288) (L' := [some (.ref 105), some (.int x1), some (.int x2), some (.int x3), none, none, none]) (st' := [.int 1]) rfl ?_
  exact k0
set_option maxRecDepth 100000 in
theorem b_Mo_closes_235 {l : Launch} {Gr : zG} {n w : Nat} {d : Nat} {S : zS} {Q : Option Value → zS → Prop} {x1 : Int32} {x2 : Int32} {x3 : Int32}  (k0 : x3 = 7 → zW l Gr (zc n w) 168 M_Mo_closes (d + 1) 283 [some (.ref 105), some (.int x1), some (.int x2), some (.int x3), none, none, none] [] S Q) (k1 : ¬ x3 = 7 → zW l Gr (zc n w) 168 M_Mo_closes (d + 1) 241 [some (.ref 105), some (.int x1), some (.int x2), some (.int x3), none, none, none] [] S Q) : zW l Gr (zc n w) 168 M_Mo_closes (d + 1) 235 [some (.ref 105), some (.int x1), some (.int x2), some (.int x3), none, none, none] [] S Q := by
  refine z_go (Gr := Gr) (zc := zc n w) (K := 168) oV_Mo_closes 2 (pc' := 238) (L' := [some (.ref 105), some (.int x1), some (.int x2), some (.int x3), none, none, none]) (st' := [.int 7, .int x3]) rfl ?_
  exact z_iceq (Gr := Gr) (tgt := 283) (oV_Mo_closes.1 (238, .if_icmp .eq 45) (ip_lk_mem rfl)) (by decide) (fun q => (k0 q)) (fun q => (k1 q))
set_option maxRecDepth 100000 in
theorem b_Mo_closes_178 {l : Launch} {Gr : zG} {n w : Nat} {d : Nat} {S : zS} {Q : Option Value → zS → Prop} {s0 : Int32}  (k0 : zW l Gr (zc n w) 168 M_Mo_closes (d + 1) 179 [some (.ref 105), none, none, none, none, none, none] [.int (-1), .int s0, .ref 105] S Q) : zW l Gr (zc n w) 168 M_Mo_closes (d + 1) 178 [some (.ref 105), none, none, none, none, none, none] [.int s0, .ref 105] S Q := by
  refine z_go (Gr := Gr) (zc := zc n w) (K := 168) oV_Mo_closes 1 (pc' := 179) (L' := [some (.ref 105), none, none, none, none, none, none]) (st' := [.int (-1), .int s0, .ref 105]) rfl ?_
  exact k0
set_option maxRecDepth 100000 in
theorem b_Mo_closes_164 {l : Launch} {Gr : zG} {n w : Nat} {d : Nat} {S : zS} {Q : Option Value → zS → Prop} {s0 : Int32} (g0 : vp_in ((S.1 73 20) - 1) 4100) (k0 : zW l Gr (zc n w) 168 M_Mo_closes (d + 1) 179 [some (.ref 105), none, none, none, none, none, none] [.int (S.1 84 ((((S.1 73 20) - 1) : Int32).toNatClampNeg)), .int s0, .ref 105] S Q) : zW l Gr (zc n w) 168 M_Mo_closes (d + 1) 164 [some (.ref 105), none, none, none, none, none, none] [.int s0, .ref 105] S Q := by
  refine z_go (Gr := Gr) (zc := zc n w) (K := 168) oV_Mo_closes 6 (pc' := 174) (L' := [some (.ref 105), none, none, none, none, none, none]) (st' := [.int ((S.1 73 20) - 1), .ref 116, .int s0, .ref 105]) rfl ?_
  refine z_iald (Gr := Gr) (c := 84) (oV_Mo_closes.1 (174, .iaload) (ip_lk_mem rfl)) (by decide) rfl g0 ?_
  refine z_go (Gr := Gr) (zc := zc n w) (K := 168) oV_Mo_closes 1 (pc' := 179) (L' := [some (.ref 105), none, none, none, none, none, none]) (st' := [.int (S.1 84 ((((S.1 73 20) - 1) : Int32).toNatClampNeg)), .int s0, .ref 105]) rfl ?_
  exact k0
set_option maxRecDepth 100000 in
theorem b_Mo_closes_287 {l : Launch} {Gr : zG} {n w : Nat} {d : Nat} {S : zS} {Q : Option Value → zS → Prop} {x1 : Int32} {x2 : Int32} {x3 : Int32}  (k0 : zW l Gr (zc n w) 168 M_Mo_closes (d + 1) 288 [some (.ref 105), some (.int x1), some (.int x2), some (.int x3), none, none, none] [.int 0] S Q) : zW l Gr (zc n w) 168 M_Mo_closes (d + 1) 287 [some (.ref 105), some (.int x1), some (.int x2), some (.int x3), none, none, none] [] S Q := by
  refine z_go (Gr := Gr) (zc := zc n w) (K := 168) oV_Mo_closes 1 (pc' := 288) (L' := [some (.ref 105), some (.int x1), some (.int x2), some (.int x3), none, none, none]) (st' := [.int 0]) rfl ?_
  exact k0
set_option maxRecDepth 100000 in
theorem b_Mo_closes_277 {l : Launch} {Gr : zG} {n w : Nat} {d : Nat} {S : zS} {Q : Option Value → zS → Prop} {x1 : Int32} {x2 : Int32} {x3 : Int32}  (k0 : ¬ x3 = 6 → zW l Gr (zc n w) 168 M_Mo_closes (d + 1) 287 [some (.ref 105), some (.int x1), some (.int x2), some (.int x3), none, none, none] [] S Q) (k1 : x3 = 6 → zW l Gr (zc n w) 168 M_Mo_closes (d + 1) 283 [some (.ref 105), some (.int x1), some (.int x2), some (.int x3), none, none, none] [] S Q) : zW l Gr (zc n w) 168 M_Mo_closes (d + 1) 277 [some (.ref 105), some (.int x1), some (.int x2), some (.int x3), none, none, none] [] S Q := by
  refine z_go (Gr := Gr) (zc := zc n w) (K := 168) oV_Mo_closes 2 (pc' := 280) (L' := [some (.ref 105), some (.int x1), some (.int x2), some (.int x3), none, none, none]) (st' := [.int 6, .int x3]) rfl ?_
  exact z_icne (Gr := Gr) (tgt := 287) (oV_Mo_closes.1 (280, .if_icmp .ne 7) (ip_lk_mem rfl)) (by decide) (fun q => (k0 q)) (fun q => (k1 q))
set_option maxRecDepth 100000 in
theorem b_Mo_closes_288 {l : Launch} {Gr : zG} {n w : Nat} {d : Nat} {S : zS} {Q : Option Value → zS → Prop} {x1 : Int32} {x2 : Int32} {x3 : Int32} {s0 : Int32}  (k0 : ¬ s0 = 0 → zW l Gr (zc n w) 168 M_Mo_closes (d + 1) 306 [some (.ref 105), some (.int x1), some (.int x2), some (.int x3), none, none, none] [] S Q) (k1 : s0 = 0 → zW l Gr (zc n w) 168 M_Mo_closes (d + 1) 295 [some (.ref 105), none, none, none, none, none, none] [] S Q) : zW l Gr (zc n w) 168 M_Mo_closes (d + 1) 288 [some (.ref 105), some (.int x1), some (.int x2), some (.int x3), none, none, none] [.int s0] S Q := by
  refine z_go (Gr := Gr) (zc := zc n w) (K := 168) oV_Mo_closes 2 (pc' := 292) (L' := [some (.ref 105), some (.int x1), some (.int x2), some (.int x3), some (.int s0), none, none]) (st' := [.int s0]) rfl ?_
  exact z_ifne (Gr := Gr) (tgt := 306) (oV_Mo_closes.1 (292, .ifCond .ne 14) (ip_lk_mem rfl)) (by decide) (fun q => (z_forget (k0 q) (And.intro rfl (And.intro rfl (And.intro rfl (And.intro rfl trivial)))))) (fun q => (z_forget (k1 q) (And.intro rfl trivial)))
set_option maxRecDepth 100000 in
theorem b_Mo_closes_241 {l : Launch} {Gr : zG} {n w : Nat} {d : Nat} {S : zS} {Q : Option Value → zS → Prop} {x1 : Int32} {x2 : Int32} {x3 : Int32}  (k0 : x3 = 8 → zW l Gr (zc n w) 168 M_Mo_closes (d + 1) 283 [some (.ref 105), some (.int x1), some (.int x2), some (.int x3), none, none, none] [] S Q) (k1 : ¬ x3 = 8 → zW l Gr (zc n w) 168 M_Mo_closes (d + 1) 247 [some (.ref 105), some (.int x1), some (.int x2), some (.int x3), none, none, none] [] S Q) : zW l Gr (zc n w) 168 M_Mo_closes (d + 1) 241 [some (.ref 105), some (.int x1), some (.int x2), some (.int x3), none, none, none] [] S Q := by
  refine z_go (Gr := Gr) (zc := zc n w) (K := 168) oV_Mo_closes 2 (pc' := 244) (L' := [some (.ref 105), some (.int x1), some (.int x2), some (.int x3), none, none, none]) (st' := [.int 8, .int x3]) rfl ?_
  exact z_iceq (Gr := Gr) (tgt := 283) (oV_Mo_closes.1 (244, .if_icmp .eq 39) (ip_lk_mem rfl)) (by decide) (fun q => (k0 q)) (fun q => (k1 q))
set_option maxRecDepth 100000 in
theorem b_Mo_closes_179 {l : Launch} {Gr : zG} {n w : Nat} {d : Nat} {S : zS} {Q : Option Value → zS → Prop} {R : Int32 → zS → Prop} (hg : ip_gk (lg_tbl, vwCl, Gr)) {s0 : Int32} {s1 : Int32}  (k0 : zMi l Gr (zc n w) 168 M_Mo_put d [.ref 105, .int s1, .int s0, .int 0, .int (S.1 73 6)] S R) (k1 : ∀ v S', R v S' → zW l Gr (zc n w) 168 M_Mo_closes (d + 1) 187 [some (.ref 105), none, none, none, none, none, none] [.int v] S' Q) : zW l Gr (zc n w) 168 M_Mo_closes (d + 1) 179 [some (.ref 105), none, none, none, none, none, none] [.int s0, .int s1, .ref 105] S Q := by
  refine z_go (Gr := Gr) (zc := zc n w) (K := 168) oV_Mo_closes 3 (pc' := 184) (L' := [some (.ref 105), none, none, none, none, none, none]) (st' := [.int (S.1 73 6), .int 0, .int s0, .int s1, .ref 105]) rfl ?_
  exact z_callV (Gr := Gr) hg.2.2.1 fT oM_Mo_put (oV_Mo_closes.1 (184, .invokevirtual 423) (ip_lk_mem rfl)) ⟨tt_9 _ (List.mem_of_getElem? (i := 61) rfl) rfl, tt_9 _ (List.mem_of_getElem? (i := 63) rfl) rfl, fS_Mo_put⟩ (c := 73) (ci := 12) (As := [.int s1, .int s0, .int 0, .int (S.1 73 6)]) rfl rfl rfl (by decide) rfl (Nat.le_of_ble_eq_true rfl) k0 (fun v S' q => by obtain ⟨x, rfl, q⟩ := q; exact (k1 _ _ q))
set_option maxRecDepth 100000 in
theorem b_Mo_closes_306 {l : Launch} {Gr : zG} {n w : Nat} {d : Nat} {S : zS} {Q : Option Value → zS → Prop} {x1 : Int32} {x2 : Int32} {x3 : Int32} (g0 : vp_in ((S.1 73 20) - 1) 4100) (k0 : ¬ x3 = 5 → zW l Gr (zc n w) 168 M_Mo_closes (d + 1) 370 [some (.ref 105), some (.int x1), some (.int x2), some (.int x3), none, some (.int (S.1 85 ((((S.1 73 20) - 1) : Int32).toNatClampNeg))), none] [] (zi (zi (zi S 73 6 ((S.1 73 6) + 1)) 73 20 ((S.1 73 20) - 1)) 73 19 ((S.1 73 19) - 1)) Q) (k1 : x3 = 5 → zW l Gr (zc n w) 168 M_Mo_closes (d + 1) 355 [some (.ref 105), some (.int x1), none, none, none, some (.int (S.1 85 ((((S.1 73 20) - 1) : Int32).toNatClampNeg))), none] [] (zi (zi (zi S 73 6 ((S.1 73 6) + 1)) 73 20 ((S.1 73 20) - 1)) 73 19 ((S.1 73 19) - 1)) Q) : zW l Gr (zc n w) 168 M_Mo_closes (d + 1) 306 [some (.ref 105), some (.int x1), some (.int x2), some (.int x3), none, none, none] [] S Q := by
  refine z_go (Gr := Gr) (zc := zc n w) (K := 168) oV_Mo_closes 5 (pc' := 313) (L' := [some (.ref 105), some (.int x1), some (.int x2), some (.int x3), none, none, none]) (st' := [.int ((S.1 73 6) + 1), .ref 105]) rfl ?_
  refine z_putI (Gr := Gr) (c := 73) (oV_Mo_closes.1 (313, .putfield 326) (ip_lk_mem rfl)) (oV_Mo_closes.2.1 (326, 12, 6, .int, false) (ip_lk_mem rfl)).1 (by decide) (zo_73 _ _ _ _) (zs_73_6 _ _ _ _ _) (zn_73_6 _ _ _ _) rfl ?_
  refine z_go (Gr := Gr) (zc := zc n w) (K := 168) oV_Mo_closes 2 (pc' := 318) (L' := [some (.ref 105), some (.int x1), some (.int x2), some (.int x3), none, none, none]) (st' := [.ref 105, .ref 105]) rfl ?_
  refine z_getI (Gr := Gr) (c := 73) (oV_Mo_closes.1 (318, .getfield 417) (ip_lk_mem rfl)) (oV_Mo_closes.2.1 (417, 12, 20, .int, false) (ip_lk_mem rfl)).1 (by decide) (zo_73 _ _ _ _) (zg_73_20 _ _ _ _) (zi_k (by decide)) ?_
  refine z_go (Gr := Gr) (zc := zc n w) (K := 168) oV_Mo_closes 2 (pc' := 323) (L' := [some (.ref 105), some (.int x1), some (.int x2), some (.int x3), none, none, none]) (st' := [.int ((S.1 73 20) - 1), .ref 105]) rfl ?_
  refine z_putI (Gr := Gr) (c := 73) (oV_Mo_closes.1 (323, .putfield 417) (ip_lk_mem rfl)) (oV_Mo_closes.2.1 (417, 12, 20, .int, false) (ip_lk_mem rfl)).1 (by decide) (zo_73 _ _ _ _) (zs_73_20 _ _ _ _ _) (zn_73_20 _ _ _ _) rfl ?_
  refine z_go (Gr := Gr) (zc := zc n w) (K := 168) oV_Mo_closes 2 (pc' := 328) (L' := [some (.ref 105), some (.int x1), some (.int x2), some (.int x3), none, none, none]) (st' := [.ref 105, .ref 105]) rfl ?_
  refine z_getI (Gr := Gr) (c := 73) (oV_Mo_closes.1 (328, .getfield 414) (ip_lk_mem rfl)) (oV_Mo_closes.2.1 (414, 12, 19, .int, false) (ip_lk_mem rfl)).1 (by decide) (zo_73 _ _ _ _) (zg_73_19 _ _ _ _) (Eq.trans (zi_k (by decide)) (zi_k (by decide))) ?_
  refine z_go (Gr := Gr) (zc := zc n w) (K := 168) oV_Mo_closes 2 (pc' := 333) (L' := [some (.ref 105), some (.int x1), some (.int x2), some (.int x3), none, none, none]) (st' := [.int ((S.1 73 19) - 1), .ref 105]) rfl ?_
  refine z_putI (Gr := Gr) (c := 73) (oV_Mo_closes.1 (333, .putfield 414) (ip_lk_mem rfl)) (oV_Mo_closes.2.1 (414, 12, 19, .int, false) (ip_lk_mem rfl)).1 (by decide) (zo_73 _ _ _ _) (zs_73_19 _ _ _ _ _) (zn_73_19 _ _ _ _) rfl ?_
  refine z_go (Gr := Gr) (zc := zc n w) (K := 168) oV_Mo_closes 3 (pc' := 341) (L' := [some (.ref 105), some (.int x1), some (.int x2), some (.int x3), none, none, none]) (st' := [.ref 105, .ref 117]) rfl ?_
  refine z_getI (Gr := Gr) (c := 73) (oV_Mo_closes.1 (341, .getfield 417) (ip_lk_mem rfl)) (oV_Mo_closes.2.1 (417, 12, 20, .int, false) (ip_lk_mem rfl)).1 (by decide) (zo_73 _ _ _ _) (zg_73_20 _ _ _ _) (Eq.trans (zi_k (by decide)) zi_v) ?_
  refine z_iald (Gr := Gr) (c := 85) (oV_Mo_closes.1 (344, .iaload) (ip_lk_mem rfl)) (by decide) rfl g0 ?_
  refine z_topI (v := (S.1 85 ((((S.1 73 20) - 1) : Int32).toNatClampNeg))) (Eq.trans (zi_c (by decide)) (Eq.trans (zi_c (by decide)) (zi_c (by decide)))) ?_
  refine z_go (Gr := Gr) (zc := zc n w) (K := 168) oV_Mo_closes 5 (pc' := 352) (L' := [some (.ref 105), some (.int x1), some (.int x2), some (.int x3), none, some (.int (S.1 85 ((((S.1 73 20) - 1) : Int32).toNatClampNeg))), some (.int 0)]) (st' := [.int 5, .int x3]) rfl ?_
  exact z_icne (Gr := Gr) (tgt := 370) (oV_Mo_closes.1 (352, .if_icmp .ne 18) (ip_lk_mem rfl)) (by decide) (fun q => (z_forget (k0 q) (And.intro rfl (And.intro rfl (And.intro rfl (And.intro rfl (And.intro rfl trivial))))))) (fun q => (z_forget (k1 q) (And.intro rfl (And.intro rfl (And.intro rfl trivial)))))
set_option maxRecDepth 100000 in
theorem b_Mo_closes_295 {l : Launch} {Gr : zG} {n w : Nat} {d : Nat} {S : zS} {Q : Option Value → zS → Prop} {R : zS → Prop} (hg : ip_gk (lg_tbl, vwCl, Gr))   (k0 : zMv l Gr (zc n w) 168 M_Mo_fail d [.ref 105, .int 1, .int (S.1 73 6)] S R) (k1 : ∀ S', R S' → zW l Gr (zc n w) 168 M_Mo_closes (d + 1) 304 [none, none, none, none, none, none, none] [] S' Q) : zW l Gr (zc n w) 168 M_Mo_closes (d + 1) 295 [some (.ref 105), none, none, none, none, none, none] [] S Q := by
  refine z_go (Gr := Gr) (zc := zc n w) (K := 168) oV_Mo_closes 4 (pc' := 301) (L' := [some (.ref 105), none, none, none, none, none, none]) (st' := [.int (S.1 73 6), .int 1, .ref 105]) rfl ?_
  exact z_callV (Gr := Gr) hg.2.2.1 fT oM_Mo_fail (oV_Mo_closes.1 (301, .invokevirtual 390) (ip_lk_mem rfl)) ⟨tt_9 _ (List.mem_of_getElem? (i := 45) rfl) rfl, tt_9 _ (List.mem_of_getElem? (i := 47) rfl) rfl, fS_Mo_fail⟩ (c := 73) (ci := 12) (As := [.int 1, .int (S.1 73 6)]) rfl rfl rfl (by decide) rfl (Nat.le_of_ble_eq_true rfl) k0 (fun v S' q => by obtain ⟨rfl, q⟩ := q; exact (z_forget (k1 _ q) trivial))
set_option maxRecDepth 100000 in
theorem b_Mo_closes_247 {l : Launch} {Gr : zG} {n w : Nat} {d : Nat} {S : zS} {Q : Option Value → zS → Prop} {x1 : Int32} {x2 : Int32} {x3 : Int32}  (k0 : ¬ x3 = 9 → zW l Gr (zc n w) 168 M_Mo_closes (d + 1) 268 [some (.ref 105), some (.int x1), some (.int x2), some (.int x3), none, none, none] [] S Q) (k1 : x3 = 9 → zW l Gr (zc n w) 168 M_Mo_closes (d + 1) 253 [some (.ref 105), some (.int x1), some (.int x2), some (.int x3), none, none, none] [] S Q) : zW l Gr (zc n w) 168 M_Mo_closes (d + 1) 247 [some (.ref 105), some (.int x1), some (.int x2), some (.int x3), none, none, none] [] S Q := by
  refine z_go (Gr := Gr) (zc := zc n w) (K := 168) oV_Mo_closes 2 (pc' := 250) (L' := [some (.ref 105), some (.int x1), some (.int x2), some (.int x3), none, none, none]) (st' := [.int 9, .int x3]) rfl ?_
  exact z_icne (Gr := Gr) (tgt := 268) (oV_Mo_closes.1 (250, .if_icmp .ne 18) (ip_lk_mem rfl)) (by decide) (fun q => (k0 q)) (fun q => (k1 q))
set_option maxRecDepth 100000 in
theorem b_Mo_closes_187 {l : Launch} {Gr : zG} {n w : Nat} {d : Nat} {S : zS} {Q : Option Value → zS → Prop} {s0 : Int32} (g0 : vp_in ((S.1 73 20) - 1) 4100) (k0 : Q (some (.int 1)) (zi (zi (zi S 86 ((((S.1 73 20) - 1) : Int32).toNatClampNeg) ((S.1 86 ((((S.1 73 20) - 1) : Int32).toNatClampNeg)) + 1)) 73 6 ((S.1 73 6) + 1)) 73 25 1)) : zW l Gr (zc n w) 168 M_Mo_closes (d + 1) 187 [some (.ref 105), none, none, none, none, none, none] [.int s0] S Q := by
  refine z_go (Gr := Gr) (zc := zc n w) (K := 168) oV_Mo_closes 8 (pc' := 200) (L' := [some (.ref 105), none, none, none, some (.int s0), none, none]) (st' := [.int ((S.1 73 20) - 1), .ref 118, .int ((S.1 73 20) - 1), .ref 118]) rfl ?_
  refine z_iald (Gr := Gr) (c := 86) (oV_Mo_closes.1 (200, .iaload) (ip_lk_mem rfl)) (by decide) rfl g0 ?_
  refine z_go (Gr := Gr) (zc := zc n w) (K := 168) oV_Mo_closes 2 (pc' := 203) (L' := [some (.ref 105), none, none, none, some (.int s0), none, none]) (st' := [.int ((S.1 86 ((((S.1 73 20) - 1) : Int32).toNatClampNeg)) + 1), .int ((S.1 73 20) - 1), .ref 118]) rfl ?_
  refine z_iast (Gr := Gr) (c := 86) (oV_Mo_closes.1 (203, .iastore) (ip_lk_mem rfl)) (by decide) (fun _ => rfl) g0 ?_
  refine z_go (Gr := Gr) (zc := zc n w) (K := 168) oV_Mo_closes 2 (pc' := 206) (L' := [some (.ref 105), none, none, none, some (.int s0), none, none]) (st' := [.ref 105, .ref 105]) rfl ?_
  refine z_getI (Gr := Gr) (c := 73) (oV_Mo_closes.1 (206, .getfield 326) (ip_lk_mem rfl)) (oV_Mo_closes.2.1 (326, 12, 6, .int, false) (ip_lk_mem rfl)).1 (by decide) (zo_73 _ _ _ _) (zg_73_6 _ _ _ _) (zi_c (by decide)) ?_
  refine z_go (Gr := Gr) (zc := zc n w) (K := 168) oV_Mo_closes 2 (pc' := 211) (L' := [some (.ref 105), none, none, none, some (.int s0), none, none]) (st' := [.int ((S.1 73 6) + 1), .ref 105]) rfl ?_
  refine z_putI (Gr := Gr) (c := 73) (oV_Mo_closes.1 (211, .putfield 326) (ip_lk_mem rfl)) (oV_Mo_closes.2.1 (326, 12, 6, .int, false) (ip_lk_mem rfl)).1 (by decide) (zo_73 _ _ _ _) (zs_73_6 _ _ _ _ _) (zn_73_6 _ _ _ _) rfl ?_
  refine z_go (Gr := Gr) (zc := zc n w) (K := 168) oV_Mo_closes 2 (pc' := 216) (L' := [some (.ref 105), none, none, none, some (.int s0), none, none]) (st' := [.int 1, .ref 105]) rfl ?_
  refine z_putI (Gr := Gr) (c := 73) (oV_Mo_closes.1 (216, .putfield 463) (ip_lk_mem rfl)) (oV_Mo_closes.2.1 (463, 12, 25, .boolean, false) (ip_lk_mem rfl)).1 (by decide) (zo_73 _ _ _ _) (zs_73_25 _ _ _ _ _) (zn_73_25 _ _ _ _) (by decide) ?_
  refine z_go (Gr := Gr) (zc := zc n w) (K := 168) oV_Mo_closes 1 (pc' := 220) (L' := [some (.ref 105), none, none, none, some (.int s0), none, none]) (st' := [.int 1]) rfl ?_
  exact z_ret (v := (some (.int 1))) (oV_Mo_closes.1 (220, .ireturn) (ip_lk_mem rfl)) k0
set_option maxRecDepth 100000 in
theorem b_Mo_closes_370 {l : Launch} {Gr : zG} {n w : Nat} {d : Nat} {S : zS} {Q : Option Value → zS → Prop} {x1 : Int32} {x2 : Int32} {x3 : Int32} {x5 : Int32}  (k0 : ¬ x3 = 6 → zW l Gr (zc n w) 168 M_Mo_closes (d + 1) 399 [some (.ref 105), some (.int x1), some (.int x2), some (.int x3), none, some (.int x5), none] [] S Q) (k1 : x3 = 6 → zW l Gr (zc n w) 168 M_Mo_closes (d + 1) 376 [some (.ref 105), some (.int x1), none, none, none, some (.int x5), none] [] S Q) : zW l Gr (zc n w) 168 M_Mo_closes (d + 1) 370 [some (.ref 105), some (.int x1), some (.int x2), some (.int x3), none, some (.int x5), none] [] S Q := by
  refine z_go (Gr := Gr) (zc := zc n w) (K := 168) oV_Mo_closes 2 (pc' := 373) (L' := [some (.ref 105), some (.int x1), some (.int x2), some (.int x3), none, some (.int x5), none]) (st' := [.int 6, .int x3]) rfl ?_
  exact z_icne (Gr := Gr) (tgt := 399) (oV_Mo_closes.1 (373, .if_icmp .ne 26) (ip_lk_mem rfl)) (by decide) (fun q => (k0 q)) (fun q => (z_forget (k1 q) (And.intro rfl (And.intro rfl (And.intro rfl trivial)))))
set_option maxRecDepth 100000 in
theorem b_Mo_closes_355 {l : Launch} {Gr : zG} {n w : Nat} {d : Nat} {S : zS} {Q : Option Value → zS → Prop} {R : Int32 → zS → Prop} (hg : ip_gk (lg_tbl, vwCl, Gr)) {x1 : Int32} {x5 : Int32}  (k0 : zMi l Gr (zc n w) 168 M_Mo_put d [.ref 105, .int 15, .int 0, .int 0, .int x5] S R) (k1 : ∀ v S', R v S' → zW l Gr (zc n w) 168 M_Mo_closes (d + 1) 365 [some (.ref 105), some (.int x1), none, none, none, none, none] [.int v] S' Q) : zW l Gr (zc n w) 168 M_Mo_closes (d + 1) 355 [some (.ref 105), some (.int x1), none, none, none, some (.int x5), none] [] S Q := by
  refine z_go (Gr := Gr) (zc := zc n w) (K := 168) oV_Mo_closes 5 (pc' := 362) (L' := [some (.ref 105), some (.int x1), none, none, none, some (.int x5), none]) (st' := [.int x5, .int 0, .int 0, .int 15, .ref 105]) rfl ?_
  exact z_callV (Gr := Gr) hg.2.2.1 fT oM_Mo_put (oV_Mo_closes.1 (362, .invokevirtual 423) (ip_lk_mem rfl)) ⟨tt_9 _ (List.mem_of_getElem? (i := 61) rfl) rfl, tt_9 _ (List.mem_of_getElem? (i := 63) rfl) rfl, fS_Mo_put⟩ (c := 73) (ci := 12) (As := [.int 15, .int 0, .int 0, .int x5]) rfl rfl rfl (by decide) rfl (Nat.le_of_ble_eq_true rfl) k0 (fun v S' q => by obtain ⟨x, rfl, q⟩ := q; exact (z_forget (k1 _ _ q) (And.intro rfl (And.intro rfl trivial))))
set_option maxRecDepth 100000 in
theorem b_Mo_closes_304 {l : Launch} {Gr : zG} {n w : Nat} {d : Nat} {S : zS} {Q : Option Value → zS → Prop}   (k0 : Q (some (.int 0)) S) : zW l Gr (zc n w) 168 M_Mo_closes (d + 1) 304 [none, none, none, none, none, none, none] [] S Q := by
  refine z_go (Gr := Gr) (zc := zc n w) (K := 168) oV_Mo_closes 1 (pc' := 305) (L' := [none, none, none, none, none, none, none]) (st' := [.int 0]) rfl ?_
  exact z_ret (v := (some (.int 0))) (oV_Mo_closes.1 (305, .ireturn) (ip_lk_mem rfl)) k0
set_option maxRecDepth 100000 in
theorem b_Mo_closes_253 {l : Launch} {Gr : zG} {n w : Nat} {d : Nat} {S : zS} {Q : Option Value → zS → Prop} {x1 : Int32} {x2 : Int32} {x3 : Int32} (g0 : vp_in ((S.1 73 20) - 1) 4100) (k0 : (S.1 86 ((((S.1 73 20) - 1) : Int32).toNatClampNeg)) = 1 → zW l Gr (zc n w) 168 M_Mo_closes (d + 1) 283 [some (.ref 105), some (.int x1), some (.int x2), some (.int x3), none, none, none] [] S Q) (k1 : ¬ (S.1 86 ((((S.1 73 20) - 1) : Int32).toNatClampNeg)) = 1 → zW l Gr (zc n w) 168 M_Mo_closes (d + 1) 268 [some (.ref 105), some (.int x1), some (.int x2), some (.int x3), none, none, none] [] S Q) : zW l Gr (zc n w) 168 M_Mo_closes (d + 1) 253 [some (.ref 105), some (.int x1), some (.int x2), some (.int x3), none, none, none] [] S Q := by
  refine z_go (Gr := Gr) (zc := zc n w) (K := 168) oV_Mo_closes 6 (pc' := 263) (L' := [some (.ref 105), some (.int x1), some (.int x2), some (.int x3), none, none, none]) (st' := [.int ((S.1 73 20) - 1), .ref 118]) rfl ?_
  refine z_iald (Gr := Gr) (c := 86) (oV_Mo_closes.1 (263, .iaload) (ip_lk_mem rfl)) (by decide) rfl g0 ?_
  refine z_go (Gr := Gr) (zc := zc n w) (K := 168) oV_Mo_closes 1 (pc' := 265) (L' := [some (.ref 105), some (.int x1), some (.int x2), some (.int x3), none, none, none]) (st' := [.int 1, .int (S.1 86 ((((S.1 73 20) - 1) : Int32).toNatClampNeg))]) rfl ?_
  exact z_iceq (Gr := Gr) (tgt := 283) (oV_Mo_closes.1 (265, .if_icmp .eq 18) (ip_lk_mem rfl)) (by decide) (fun q => (k0 q)) (fun q => (k1 q))
set_option maxRecDepth 100000 in
theorem b_Mo_closes_399 {l : Launch} {Gr : zG} {n w : Nat} {d : Nat} {S : zS} {Q : Option Value → zS → Prop} {x1 : Int32} {x2 : Int32} {x3 : Int32} {x5 : Int32}  (k0 : ¬ x3 = 7 → zW l Gr (zc n w) 168 M_Mo_closes (d + 1) 492 [some (.ref 105), some (.int x1), none, some (.int x3), none, some (.int x5), none] [] S Q) (k1 : x3 = 7 → zW l Gr (zc n w) 168 M_Mo_closes (d + 1) 405 [some (.ref 105), some (.int x1), some (.int x2), none, none, some (.int x5), none] [] S Q) : zW l Gr (zc n w) 168 M_Mo_closes (d + 1) 399 [some (.ref 105), some (.int x1), some (.int x2), some (.int x3), none, some (.int x5), none] [] S Q := by
  refine z_go (Gr := Gr) (zc := zc n w) (K := 168) oV_Mo_closes 2 (pc' := 402) (L' := [some (.ref 105), some (.int x1), some (.int x2), some (.int x3), none, some (.int x5), none]) (st' := [.int 7, .int x3]) rfl ?_
  exact z_icne (Gr := Gr) (tgt := 492) (oV_Mo_closes.1 (402, .if_icmp .ne 90) (ip_lk_mem rfl)) (by decide) (fun q => (z_forget (k0 q) (And.intro rfl (And.intro rfl (And.intro rfl (And.intro rfl trivial)))))) (fun q => (z_forget (k1 q) (And.intro rfl (And.intro rfl (And.intro rfl (And.intro rfl trivial))))))
set_option maxRecDepth 100000 in
theorem b_Mo_closes_376 {l : Launch} {Gr : zG} {n w : Nat} {d : Nat} {S : zS} {Q : Option Value → zS → Prop} {R : Int32 → zS → Prop} (hg : ip_gk (lg_tbl, vwCl, Gr)) {x1 : Int32} {x5 : Int32} (g0 : vp_in (S.1 73 20) 4100) (k0 : zMi l Gr (zc n w) 168 M_Mo_put d [.ref 105, .int 7, .int (S.1 84 (((S.1 73 20) : Int32).toNatClampNeg)), .int 0, .int x5] S R) (k1 : ∀ v S', R v S' → zW l Gr (zc n w) 168 M_Mo_closes (d + 1) 394 [some (.ref 105), some (.int x1), none, none, none, none, none] [.int v] S' Q) : zW l Gr (zc n w) 168 M_Mo_closes (d + 1) 376 [some (.ref 105), some (.int x1), none, none, none, some (.int x5), none] [] S Q := by
  refine z_go (Gr := Gr) (zc := zc n w) (K := 168) oV_Mo_closes 6 (pc' := 387) (L' := [some (.ref 105), some (.int x1), none, none, none, some (.int x5), none]) (st' := [.int (S.1 73 20), .ref 116, .int 7, .ref 105]) rfl ?_
  refine z_iald (Gr := Gr) (c := 84) (oV_Mo_closes.1 (387, .iaload) (ip_lk_mem rfl)) (by decide) rfl g0 ?_
  refine z_go (Gr := Gr) (zc := zc n w) (K := 168) oV_Mo_closes 2 (pc' := 391) (L' := [some (.ref 105), some (.int x1), none, none, none, some (.int x5), none]) (st' := [.int x5, .int 0, .int (S.1 84 (((S.1 73 20) : Int32).toNatClampNeg)), .int 7, .ref 105]) rfl ?_
  exact z_callV (Gr := Gr) hg.2.2.1 fT oM_Mo_put (oV_Mo_closes.1 (391, .invokevirtual 423) (ip_lk_mem rfl)) ⟨tt_9 _ (List.mem_of_getElem? (i := 61) rfl) rfl, tt_9 _ (List.mem_of_getElem? (i := 63) rfl) rfl, fS_Mo_put⟩ (c := 73) (ci := 12) (As := [.int 7, .int (S.1 84 (((S.1 73 20) : Int32).toNatClampNeg)), .int 0, .int x5]) rfl rfl rfl (by decide) rfl (Nat.le_of_ble_eq_true rfl) k0 (fun v S' q => by obtain ⟨x, rfl, q⟩ := q; exact (z_forget (k1 _ _ q) (And.intro rfl (And.intro rfl trivial))))
set_option maxRecDepth 100000 in
theorem b_Mo_closes_365 {l : Launch} {Gr : zG} {n w : Nat} {d : Nat} {S : zS} {Q : Option Value → zS → Prop} {x1 : Int32} {s0 : Int32}  (k0 : zW l Gr (zc n w) 168 M_Mo_closes (d + 1) 515 [some (.ref 105), some (.int x1), none, none, none, none, none] [] S Q) : zW l Gr (zc n w) 168 M_Mo_closes (d + 1) 365 [some (.ref 105), some (.int x1), none, none, none, none, none] [.int s0] S Q := by
  refine z_go (Gr := Gr) (zc := zc n w) (K := 168) oV_Mo_closes 2 (pc' := 515) (L' := [some (.ref 105), some (.int x1), none, none, none, none, some (.int s0)]) (st' := []) rfl ?_
  exact (z_forget k0 (And.intro rfl (And.intro rfl trivial)))
set_option maxRecDepth 100000 in
theorem b_Mo_closes_492 {l : Launch} {Gr : zG} {n w : Nat} {d : Nat} {S : zS} {Q : Option Value → zS → Prop} {x1 : Int32} {x3 : Int32} {x5 : Int32}  (k0 : ¬ x3 = 8 → zW l Gr (zc n w) 168 M_Mo_closes (d + 1) 504 [some (.ref 105), some (.int x1), none, none, none, some (.int x5), none] [.ref 105] S Q) (k1 : x3 = 8 → zW l Gr (zc n w) 168 M_Mo_closes (d + 1) 499 [some (.ref 105), some (.int x1), none, none, none, some (.int x5), none] [.ref 105] S Q) : zW l Gr (zc n w) 168 M_Mo_closes (d + 1) 492 [some (.ref 105), some (.int x1), none, some (.int x3), none, some (.int x5), none] [] S Q := by
  refine z_go (Gr := Gr) (zc := zc n w) (K := 168) oV_Mo_closes 3 (pc' := 496) (L' := [some (.ref 105), some (.int x1), none, some (.int x3), none, some (.int x5), none]) (st' := [.int 8, .int x3, .ref 105]) rfl ?_
  exact z_icne (Gr := Gr) (tgt := 504) (oV_Mo_closes.1 (496, .if_icmp .ne 8) (ip_lk_mem rfl)) (by decide) (fun q => (z_forget (k0 q) (And.intro rfl (And.intro rfl (And.intro rfl trivial))))) (fun q => (z_forget (k1 q) (And.intro rfl (And.intro rfl (And.intro rfl trivial)))))
set_option maxRecDepth 100000 in
theorem b_Mo_closes_405 {l : Launch} {Gr : zG} {n w : Nat} {d : Nat} {S : zS} {Q : Option Value → zS → Prop} {x1 : Int32} {x2 : Int32} {x5 : Int32} (g0 : vp_in (S.1 73 20) 4100) (k0 : x2 = 0 → zW l Gr (zc n w) 168 M_Mo_closes (d + 1) 426 [some (.ref 105), some (.int x1), some (.int x2), none, none, some (.int x5), none] [.int (S.1 84 (((S.1 73 20) : Int32).toNatClampNeg)), .ref 112] S Q) (k1 : ¬ x2 = 0 → zW l Gr (zc n w) 168 M_Mo_closes (d + 1) 422 [some (.ref 105), some (.int x1), some (.int x2), none, none, some (.int x5), none] [.int (S.1 84 (((S.1 73 20) : Int32).toNatClampNeg)), .ref 112] S Q) : zW l Gr (zc n w) 168 M_Mo_closes (d + 1) 405 [some (.ref 105), some (.int x1), some (.int x2), none, none, some (.int x5), none] [] S Q := by
  refine z_go (Gr := Gr) (zc := zc n w) (K := 168) oV_Mo_closes 6 (pc' := 417) (L' := [some (.ref 105), some (.int x1), some (.int x2), none, none, some (.int x5), none]) (st' := [.int (S.1 73 20), .ref 116, .ref 112]) rfl ?_
  refine z_iald (Gr := Gr) (c := 84) (oV_Mo_closes.1 (417, .iaload) (ip_lk_mem rfl)) (by decide) rfl g0 ?_
  refine z_go (Gr := Gr) (zc := zc n w) (K := 168) oV_Mo_closes 1 (pc' := 419) (L' := [some (.ref 105), some (.int x1), some (.int x2), none, none, some (.int x5), none]) (st' := [.int x2, .int (S.1 84 (((S.1 73 20) : Int32).toNatClampNeg)), .ref 112]) rfl ?_
  exact z_ifeq (Gr := Gr) (tgt := 426) (oV_Mo_closes.1 (419, .ifCond .eq 7) (ip_lk_mem rfl)) (by decide) (fun q => (k0 q)) (fun q => (k1 q))
set_option maxRecDepth 100000 in
theorem b_Mo_closes_394 {l : Launch} {Gr : zG} {n w : Nat} {d : Nat} {S : zS} {Q : Option Value → zS → Prop} {x1 : Int32} {s0 : Int32}  (k0 : zW l Gr (zc n w) 168 M_Mo_closes (d + 1) 515 [some (.ref 105), some (.int x1), none, none, none, none, none] [] S Q) : zW l Gr (zc n w) 168 M_Mo_closes (d + 1) 394 [some (.ref 105), some (.int x1), none, none, none, none, none] [.int s0] S Q := by
  refine z_go (Gr := Gr) (zc := zc n w) (K := 168) oV_Mo_closes 2 (pc' := 515) (L' := [some (.ref 105), some (.int x1), none, none, none, none, some (.int s0)]) (st' := []) rfl ?_
  exact (z_forget k0 (And.intro rfl (And.intro rfl trivial)))
set_option maxRecDepth 100000 in
theorem b_Mo_closes_515 {l : Launch} {Gr : zG} {n w : Nat} {d : Nat} {S : zS} {Q : Option Value → zS → Prop} {R : zS → Prop} (hg : ip_gk (lg_tbl, vwCl, Gr)) {x1 : Int32}  (k0 : zMv l Gr (zc n w) 168 M_Mo_signsOver d [.ref 105, .int x1] S R) (k1 : ∀ S', R S' → zW l Gr (zc n w) 168 M_Mo_closes (d + 1) 520 [none, none, none, none, none, none, none] [] S' Q) : zW l Gr (zc n w) 168 M_Mo_closes (d + 1) 515 [some (.ref 105), some (.int x1), none, none, none, none, none] [] S Q := by
  refine z_go (Gr := Gr) (zc := zc n w) (K := 168) oV_Mo_closes 2 (pc' := 517) (L' := [some (.ref 105), some (.int x1), none, none, none, none, none]) (st' := [.int x1, .ref 105]) rfl ?_
  exact z_callV (Gr := Gr) hg.2.2.1 fT oM_Mo_signsOver (oV_Mo_closes.1 (517, .invokevirtual 451) (ip_lk_mem rfl)) ⟨tt_9 _ (List.mem_of_getElem? (i := 133) rfl) rfl, tt_9 _ (List.mem_of_getElem? (i := 135) rfl) rfl, fS_Mo_signsOver⟩ (c := 73) (ci := 12) (As := [.int x1]) rfl rfl rfl (by decide) rfl (Nat.le_of_ble_eq_true rfl) k0 (fun v S' q => by obtain ⟨rfl, q⟩ := q; exact (z_forget (k1 _ q) trivial))
set_option maxRecDepth 100000 in
theorem b_Mo_closes_504 {l : Launch} {Gr : zG} {n w : Nat} {d : Nat} {S : zS} {Q : Option Value → zS → Prop} {x1 : Int32} {x5 : Int32}  (k0 : zW l Gr (zc n w) 168 M_Mo_closes (d + 1) 506 [some (.ref 105), some (.int x1), none, none, none, some (.int x5), none] [.int 11, .ref 105] S Q) : zW l Gr (zc n w) 168 M_Mo_closes (d + 1) 504 [some (.ref 105), some (.int x1), none, none, none, some (.int x5), none] [.ref 105] S Q := by
  refine z_go (Gr := Gr) (zc := zc n w) (K := 168) oV_Mo_closes 1 (pc' := 506) (L' := [some (.ref 105), some (.int x1), none, none, none, some (.int x5), none]) (st' := [.int 11, .ref 105]) rfl ?_
  exact k0
set_option maxRecDepth 100000 in
theorem b_Mo_closes_499 {l : Launch} {Gr : zG} {n w : Nat} {d : Nat} {S : zS} {Q : Option Value → zS → Prop} {x1 : Int32} {x5 : Int32}  (k0 : zW l Gr (zc n w) 168 M_Mo_closes (d + 1) 506 [some (.ref 105), some (.int x1), none, none, none, some (.int x5), none] [.int 10, .ref 105] S Q) : zW l Gr (zc n w) 168 M_Mo_closes (d + 1) 499 [some (.ref 105), some (.int x1), none, none, none, some (.int x5), none] [.ref 105] S Q := by
  refine z_go (Gr := Gr) (zc := zc n w) (K := 168) oV_Mo_closes 2 (pc' := 506) (L' := [some (.ref 105), some (.int x1), none, none, none, some (.int x5), none]) (st' := [.int 10, .ref 105]) rfl ?_
  exact k0
set_option maxRecDepth 100000 in
theorem b_Mo_closes_426 {l : Launch} {Gr : zG} {n w : Nat} {d : Nat} {S : zS} {Q : Option Value → zS → Prop} {x1 : Int32} {x2 : Int32} {x5 : Int32} {s0 : Int32} (g0 : vp_in (S.1 73 20) 4100) (k0 : zW l Gr (zc n w) 168 M_Mo_closes (d + 1) 437 [some (.ref 105), some (.int x1), some (.int x2), none, none, some (.int x5), none] [.int ((S.1 86 (((S.1 73 20) : Int32).toNatClampNeg)) + 1), .int s0, .ref 112] S Q) : zW l Gr (zc n w) 168 M_Mo_closes (d + 1) 426 [some (.ref 105), some (.int x1), some (.int x2), none, none, some (.int x5), none] [.int s0, .ref 112] S Q := by
  refine z_go (Gr := Gr) (zc := zc n w) (K := 168) oV_Mo_closes 4 (pc' := 434) (L' := [some (.ref 105), some (.int x1), some (.int x2), none, none, some (.int x5), none]) (st' := [.int (S.1 73 20), .ref 118, .int s0, .ref 112]) rfl ?_
  refine z_iald (Gr := Gr) (c := 86) (oV_Mo_closes.1 (434, .iaload) (ip_lk_mem rfl)) (by decide) rfl g0 ?_
  refine z_go (Gr := Gr) (zc := zc n w) (K := 168) oV_Mo_closes 2 (pc' := 437) (L' := [some (.ref 105), some (.int x1), some (.int x2), none, none, some (.int x5), none]) (st' := [.int ((S.1 86 (((S.1 73 20) : Int32).toNatClampNeg)) + 1), .int s0, .ref 112]) rfl ?_
  exact k0
set_option maxRecDepth 100000 in
theorem b_Mo_closes_422 {l : Launch} {Gr : zG} {n w : Nat} {d : Nat} {S : zS} {Q : Option Value → zS → Prop} {x1 : Int32} {x2 : Int32} {x5 : Int32} {s0 : Int32}  (k0 : zW l Gr (zc n w) 168 M_Mo_closes (d + 1) 437 [some (.ref 105), some (.int x1), some (.int x2), none, none, some (.int x5), none] [.int 0, .int s0, .ref 112] S Q) : zW l Gr (zc n w) 168 M_Mo_closes (d + 1) 422 [some (.ref 105), some (.int x1), some (.int x2), none, none, some (.int x5), none] [.int s0, .ref 112] S Q := by
  refine z_go (Gr := Gr) (zc := zc n w) (K := 168) oV_Mo_closes 2 (pc' := 437) (L' := [some (.ref 105), some (.int x1), some (.int x2), none, none, some (.int x5), none]) (st' := [.int 0, .int s0, .ref 112]) rfl ?_
  exact k0
set_option maxRecDepth 100000 in
theorem b_Mo_closes_520 {l : Launch} {Gr : zG} {n w : Nat} {d : Nat} {S : zS} {Q : Option Value → zS → Prop}   (k0 : Q (some (.int 1)) S) : zW l Gr (zc n w) 168 M_Mo_closes (d + 1) 520 [none, none, none, none, none, none, none] [] S Q := by
  refine z_go (Gr := Gr) (zc := zc n w) (K := 168) oV_Mo_closes 1 (pc' := 521) (L' := [none, none, none, none, none, none, none]) (st' := [.int 1]) rfl ?_
  exact z_ret (v := (some (.int 1))) (oV_Mo_closes.1 (521, .ireturn) (ip_lk_mem rfl)) k0
set_option maxRecDepth 100000 in
theorem b_Mo_closes_506 {l : Launch} {Gr : zG} {n w : Nat} {d : Nat} {S : zS} {Q : Option Value → zS → Prop} {R : Int32 → zS → Prop} (hg : ip_gk (lg_tbl, vwCl, Gr)) {x1 : Int32} {x5 : Int32} {s0 : Int32}  (k0 : zMi l Gr (zc n w) 168 M_Mo_put d [.ref 105, .int s0, .int 0, .int 0, .int x5] S R) (k1 : ∀ v S', R v S' → zW l Gr (zc n w) 168 M_Mo_closes (d + 1) 513 [some (.ref 105), some (.int x1), none, none, none, none, none] [.int v] S' Q) : zW l Gr (zc n w) 168 M_Mo_closes (d + 1) 506 [some (.ref 105), some (.int x1), none, none, none, some (.int x5), none] [.int s0, .ref 105] S Q := by
  refine z_go (Gr := Gr) (zc := zc n w) (K := 168) oV_Mo_closes 3 (pc' := 510) (L' := [some (.ref 105), some (.int x1), none, none, none, some (.int x5), none]) (st' := [.int x5, .int 0, .int 0, .int s0, .ref 105]) rfl ?_
  exact z_callV (Gr := Gr) hg.2.2.1 fT oM_Mo_put (oV_Mo_closes.1 (510, .invokevirtual 423) (ip_lk_mem rfl)) ⟨tt_9 _ (List.mem_of_getElem? (i := 61) rfl) rfl, tt_9 _ (List.mem_of_getElem? (i := 63) rfl) rfl, fS_Mo_put⟩ (c := 73) (ci := 12) (As := [.int s0, .int 0, .int 0, .int x5]) rfl rfl rfl (by decide) rfl (Nat.le_of_ble_eq_true rfl) k0 (fun v S' q => by obtain ⟨x, rfl, q⟩ := q; exact (z_forget (k1 _ _ q) (And.intro rfl (And.intro rfl trivial))))
set_option maxRecDepth 100000 in
theorem b_Mo_closes_437 {l : Launch} {Gr : zG} {n w : Nat} {d : Nat} {S : zS} {Q : Option Value → zS → Prop} {x1 : Int32} {x2 : Int32} {x5 : Int32} {s0 : Int32} {s1 : Int32} (g0 : vp_in s1 12000) (k0 : ¬ x2 = 0 → zW l Gr (zc n w) 168 M_Mo_closes (d + 1) 464 [some (.ref 105), some (.int x1), none, none, none, some (.int x5), none] [] (zi S 80 ((s1 : Int32).toNatClampNeg) s0) Q) (k1 : x2 = 0 → zW l Gr (zc n w) 168 M_Mo_closes (d + 1) 442 [some (.ref 105), some (.int x1), none, none, none, some (.int x5), none] [] (zi S 80 ((s1 : Int32).toNatClampNeg) s0) Q) : zW l Gr (zc n w) 168 M_Mo_closes (d + 1) 437 [some (.ref 105), some (.int x1), some (.int x2), none, none, some (.int x5), none] [.int s0, .int s1, .ref 112] S Q := by
  refine z_iast (Gr := Gr) (c := 80) (oV_Mo_closes.1 (437, .iastore) (ip_lk_mem rfl)) (by decide) (fun _ => rfl) g0 ?_
  refine z_go (Gr := Gr) (zc := zc n w) (K := 168) oV_Mo_closes 1 (pc' := 439) (L' := [some (.ref 105), some (.int x1), some (.int x2), none, none, some (.int x5), none]) (st' := [.int x2]) rfl ?_
  exact z_ifne (Gr := Gr) (tgt := 464) (oV_Mo_closes.1 (439, .ifCond .ne 25) (ip_lk_mem rfl)) (by decide) (fun q => (z_forget (k0 q) (And.intro rfl (And.intro rfl (And.intro rfl trivial))))) (fun q => (z_forget (k1 q) (And.intro rfl (And.intro rfl (And.intro rfl trivial)))))
set_option maxRecDepth 100000 in
theorem b_Mo_closes_513 {l : Launch} {Gr : zG} {n w : Nat} {d : Nat} {S : zS} {Q : Option Value → zS → Prop} {x1 : Int32} {s0 : Int32}  (k0 : zW l Gr (zc n w) 168 M_Mo_closes (d + 1) 515 [some (.ref 105), some (.int x1), none, none, none, none, none] [] S Q) : zW l Gr (zc n w) 168 M_Mo_closes (d + 1) 513 [some (.ref 105), some (.int x1), none, none, none, none, none] [.int s0] S Q := by
  refine z_go (Gr := Gr) (zc := zc n w) (K := 168) oV_Mo_closes 1 (pc' := 515) (L' := [some (.ref 105), some (.int x1), none, none, none, none, some (.int s0)]) (st' := []) rfl ?_
  exact (z_forget k0 (And.intro rfl (And.intro rfl trivial)))
set_option maxRecDepth 100000 in
theorem b_Mo_closes_464 {l : Launch} {Gr : zG} {n w : Nat} {d : Nat} {S : zS} {Q : Option Value → zS → Prop} {R : Int32 → zS → Prop} (hg : ip_gk (lg_tbl, vwCl, Gr)) {x1 : Int32} {x5 : Int32} (g0 : vp_in (S.1 73 20) 4100) (g1 : vp_in (S.1 84 (((S.1 73 20) : Int32).toNatClampNeg)) 12000) (k0 : zMi l Gr (zc n w) 168 M_Mo_put d [.ref 105, .int 9, .int (S.1 79 (((S.1 84 (((S.1 73 20) : Int32).toNatClampNeg)) : Int32).toNatClampNeg)), .int 0, .int x5] S R) (k1 : ∀ v S', R v S' → zW l Gr (zc n w) 168 M_Mo_closes (d + 1) 487 [some (.ref 105), some (.int x1), none, none, none, none, none] [.int v] S' Q) : zW l Gr (zc n w) 168 M_Mo_closes (d + 1) 464 [some (.ref 105), some (.int x1), none, none, none, some (.int x5), none] [] S Q := by
  refine z_go (Gr := Gr) (zc := zc n w) (K := 168) oV_Mo_closes 8 (pc' := 479) (L' := [some (.ref 105), some (.int x1), none, none, none, some (.int x5), none]) (st' := [.int (S.1 73 20), .ref 116, .ref 111, .int 9, .ref 105]) rfl ?_
  refine z_iald (Gr := Gr) (c := 84) (oV_Mo_closes.1 (479, .iaload) (ip_lk_mem rfl)) (by decide) rfl g0 ?_
  refine z_iald (Gr := Gr) (c := 79) (oV_Mo_closes.1 (480, .iaload) (ip_lk_mem rfl)) (by decide) rfl g1 ?_
  refine z_go (Gr := Gr) (zc := zc n w) (K := 168) oV_Mo_closes 2 (pc' := 484) (L' := [some (.ref 105), some (.int x1), none, none, none, some (.int x5), none]) (st' := [.int x5, .int 0, .int (S.1 79 (((S.1 84 (((S.1 73 20) : Int32).toNatClampNeg)) : Int32).toNatClampNeg)), .int 9, .ref 105]) rfl ?_
  exact z_callV (Gr := Gr) hg.2.2.1 fT oM_Mo_put (oV_Mo_closes.1 (484, .invokevirtual 423) (ip_lk_mem rfl)) ⟨tt_9 _ (List.mem_of_getElem? (i := 61) rfl) rfl, tt_9 _ (List.mem_of_getElem? (i := 63) rfl) rfl, fS_Mo_put⟩ (c := 73) (ci := 12) (As := [.int 9, .int (S.1 79 (((S.1 84 (((S.1 73 20) : Int32).toNatClampNeg)) : Int32).toNatClampNeg)), .int 0, .int x5]) rfl rfl rfl (by decide) rfl (Nat.le_of_ble_eq_true rfl) k0 (fun v S' q => by obtain ⟨x, rfl, q⟩ := q; exact (z_forget (k1 _ _ q) (And.intro rfl (And.intro rfl trivial))))
set_option maxRecDepth 100000 in
theorem b_Mo_closes_442 {l : Launch} {Gr : zG} {n w : Nat} {d : Nat} {S : zS} {Q : Option Value → zS → Prop} {R : Int32 → zS → Prop} (hg : ip_gk (lg_tbl, vwCl, Gr)) {x1 : Int32} {x5 : Int32} (g0 : vp_in (S.1 73 20) 4100) (k0 : zMi l Gr (zc n w) 168 M_Mo_put d [.ref 105, .int 16, .int (S.1 84 (((S.1 73 20) : Int32).toNatClampNeg)), .int 0, .int (S.1 73 6)] S R) (k1 : ∀ v S', R v S' → zW l Gr (zc n w) 168 M_Mo_closes (d + 1) 462 [some (.ref 105), some (.int x1), none, none, none, some (.int x5), none] [.int v] S' Q) : zW l Gr (zc n w) 168 M_Mo_closes (d + 1) 442 [some (.ref 105), some (.int x1), none, none, none, some (.int x5), none] [] S Q := by
  refine z_go (Gr := Gr) (zc := zc n w) (K := 168) oV_Mo_closes 6 (pc' := 453) (L' := [some (.ref 105), some (.int x1), none, none, none, some (.int x5), none]) (st' := [.int (S.1 73 20), .ref 116, .int 16, .ref 105]) rfl ?_
  refine z_iald (Gr := Gr) (c := 84) (oV_Mo_closes.1 (453, .iaload) (ip_lk_mem rfl)) (by decide) rfl g0 ?_
  refine z_go (Gr := Gr) (zc := zc n w) (K := 168) oV_Mo_closes 3 (pc' := 459) (L' := [some (.ref 105), some (.int x1), none, none, none, some (.int x5), none]) (st' := [.int (S.1 73 6), .int 0, .int (S.1 84 (((S.1 73 20) : Int32).toNatClampNeg)), .int 16, .ref 105]) rfl ?_
  exact z_callV (Gr := Gr) hg.2.2.1 fT oM_Mo_put (oV_Mo_closes.1 (459, .invokevirtual 423) (ip_lk_mem rfl)) ⟨tt_9 _ (List.mem_of_getElem? (i := 61) rfl) rfl, tt_9 _ (List.mem_of_getElem? (i := 63) rfl) rfl, fS_Mo_put⟩ (c := 73) (ci := 12) (As := [.int 16, .int (S.1 84 (((S.1 73 20) : Int32).toNatClampNeg)), .int 0, .int (S.1 73 6)]) rfl rfl rfl (by decide) rfl (Nat.le_of_ble_eq_true rfl) k0 (fun v S' q => by obtain ⟨x, rfl, q⟩ := q; exact (k1 _ _ q))
set_option maxRecDepth 100000 in
theorem b_Mo_closes_487 {l : Launch} {Gr : zG} {n w : Nat} {d : Nat} {S : zS} {Q : Option Value → zS → Prop} {x1 : Int32} {s0 : Int32}  (k0 : zW l Gr (zc n w) 168 M_Mo_closes (d + 1) 515 [some (.ref 105), some (.int x1), none, none, none, none, none] [] S Q) : zW l Gr (zc n w) 168 M_Mo_closes (d + 1) 487 [some (.ref 105), some (.int x1), none, none, none, none, none] [.int s0] S Q := by
  refine z_go (Gr := Gr) (zc := zc n w) (K := 168) oV_Mo_closes 2 (pc' := 515) (L' := [some (.ref 105), some (.int x1), none, none, none, none, some (.int s0)]) (st' := []) rfl ?_
  exact (z_forget k0 (And.intro rfl (And.intro rfl trivial)))
set_option maxRecDepth 100000 in
theorem b_Mo_closes_462 {l : Launch} {Gr : zG} {n w : Nat} {d : Nat} {S : zS} {Q : Option Value → zS → Prop} {x1 : Int32} {x5 : Int32} {s0 : Int32}  (k0 : zW l Gr (zc n w) 168 M_Mo_closes (d + 1) 464 [some (.ref 105), some (.int x1), none, none, none, some (.int x5), none] [] S Q) : zW l Gr (zc n w) 168 M_Mo_closes (d + 1) 462 [some (.ref 105), some (.int x1), none, none, none, some (.int x5), none] [.int s0] S Q := by
  refine z_go (Gr := Gr) (zc := zc n w) (K := 168) oV_Mo_closes 1 (pc' := 464) (L' := [some (.ref 105), some (.int x1), none, none, none, some (.int x5), some (.int s0)]) (st' := []) rfl ?_
  exact (z_forget k0 (And.intro rfl (And.intro rfl (And.intro rfl trivial))))
theorem e_Mo_closes {l : Launch} {Gr : zG} {n w : Nat} {d : Nat} {S : zS} {R : Int32 → zS → Prop} {x1 : Int32} (k : zW l Gr (zc n w) 168 M_Mo_closes (d + 1) 0 [some (.ref 105), some (.int x1), none, none, none, none, none] [] S (fun v S' => ∃ x, v = some (.int x) ∧ (x = 0 ∨ x = 1) ∧ R x S')) : zMi l Gr (zc n w) 168 M_Mo_closes (d + 1) [.ref 105, .int x1] S R := z_mb oM_Mo_closes rfl (Nat.le_of_ble_eq_true rfl) k
set_option maxRecDepth 100000 in
theorem b_Mo_isFresh_0 {l : Launch} {Gr : zG} {n w : Nat} {d : Nat} {S : zS} {Q : Option Value → zS → Prop}  (g0 : vp_in ((S.1 73 13) - 1) 12000) (k0 : ¬ (S.1 78 ((((S.1 73 13) - 1) : Int32).toNatClampNeg)) = 8 → zW l Gr (zc n w) 168 M_Mo_isFresh d 70 [none] [] S Q) (k1 : (S.1 78 ((((S.1 73 13) - 1) : Int32).toNatClampNeg)) = 8 → zW l Gr (zc n w) 168 M_Mo_isFresh d 16 [some (.ref 105)] [] S Q) : zW l Gr (zc n w) 168 M_Mo_isFresh d 0 [some (.ref 105)] [] S Q := by
  refine z_go (Gr := Gr) (zc := zc n w) (K := 168) oV_Mo_isFresh 6 (pc' := 10) (L' := [some (.ref 105)]) (st' := [.int ((S.1 73 13) - 1), .ref 110]) rfl ?_
  refine z_iald (Gr := Gr) (c := 78) (oV_Mo_isFresh.1 (10, .iaload) (ip_lk_mem rfl)) (by decide) rfl g0 ?_
  refine z_go (Gr := Gr) (zc := zc n w) (K := 168) oV_Mo_isFresh 1 (pc' := 13) (L' := [some (.ref 105)]) (st' := [.int 8, .int (S.1 78 ((((S.1 73 13) - 1) : Int32).toNatClampNeg))]) rfl ?_
  exact z_icne (Gr := Gr) (tgt := 70) (oV_Mo_isFresh.1 (13, .if_icmp .ne 57) (ip_lk_mem rfl)) (by decide) (fun q => (z_forget (k0 q) trivial)) (fun q => (k1 q))
set_option maxRecDepth 100000 in
theorem b_Mo_isFresh_70 {l : Launch} {Gr : zG} {n w : Nat} {d : Nat} {S : zS} {Q : Option Value → zS → Prop}   (k0 : zW l Gr (zc n w) 168 M_Mo_isFresh d 71 [none] [.int 0] S Q) : zW l Gr (zc n w) 168 M_Mo_isFresh d 70 [none] [] S Q := by
  refine z_go (Gr := Gr) (zc := zc n w) (K := 168) oV_Mo_isFresh 1 (pc' := 71) (L' := [none]) (st' := [.int 0]) rfl ?_
  exact k0
set_option maxRecDepth 100000 in
theorem b_Mo_isFresh_16 {l : Launch} {Gr : zG} {n w : Nat} {d : Nat} {S : zS} {Q : Option Value → zS → Prop}  (g0 : vp_in ((S.1 73 13) - 1) 12000) (g1 : vp_in ((S.1 73 20) - 1) 4100) (g2 : vp_in (S.1 84 ((((S.1 73 20) - 1) : Int32).toNatClampNeg)) 12000) (k0 : ¬ (S.1 79 ((((S.1 73 13) - 1) : Int32).toNatClampNeg)) = (S.1 79 (((S.1 84 ((((S.1 73 20) - 1) : Int32).toNatClampNeg)) : Int32).toNatClampNeg)) → zW l Gr (zc n w) 168 M_Mo_isFresh d 70 [none] [] S Q) (k1 : (S.1 79 ((((S.1 73 13) - 1) : Int32).toNatClampNeg)) = (S.1 79 (((S.1 84 ((((S.1 73 20) - 1) : Int32).toNatClampNeg)) : Int32).toNatClampNeg)) → zW l Gr (zc n w) 168 M_Mo_isFresh d 46 [some (.ref 105)] [] S Q) : zW l Gr (zc n w) 168 M_Mo_isFresh d 16 [some (.ref 105)] [] S Q := by
  refine z_go (Gr := Gr) (zc := zc n w) (K := 168) oV_Mo_isFresh 6 (pc' := 26) (L' := [some (.ref 105)]) (st' := [.int ((S.1 73 13) - 1), .ref 111]) rfl ?_
  refine z_iald (Gr := Gr) (c := 79) (oV_Mo_isFresh.1 (26, .iaload) (ip_lk_mem rfl)) (by decide) rfl g0 ?_
  refine z_go (Gr := Gr) (zc := zc n w) (K := 168) oV_Mo_isFresh 8 (pc' := 41) (L' := [some (.ref 105)]) (st' := [.int ((S.1 73 20) - 1), .ref 116, .ref 111, .int (S.1 79 ((((S.1 73 13) - 1) : Int32).toNatClampNeg))]) rfl ?_
  refine z_iald (Gr := Gr) (c := 84) (oV_Mo_isFresh.1 (41, .iaload) (ip_lk_mem rfl)) (by decide) rfl g1 ?_
  refine z_iald (Gr := Gr) (c := 79) (oV_Mo_isFresh.1 (42, .iaload) (ip_lk_mem rfl)) (by decide) rfl g2 ?_
  exact z_icne (Gr := Gr) (tgt := 70) (oV_Mo_isFresh.1 (43, .if_icmp .ne 27) (ip_lk_mem rfl)) (by decide) (fun q => (z_forget (k0 q) trivial)) (fun q => (k1 q))
set_option maxRecDepth 100000 in
theorem b_Mo_isFresh_71 {l : Launch} {Gr : zG} {n w : Nat} {d : Nat} {S : zS} {Q : Option Value → zS → Prop} {s0 : Int32}  (k0 : Q (some (.int s0)) S) : zW l Gr (zc n w) 168 M_Mo_isFresh d 71 [none] [.int s0] S Q := by
  exact z_ret (v := (some (.int s0))) (oV_Mo_isFresh.1 (71, .ireturn) (ip_lk_mem rfl)) k0
set_option maxRecDepth 100000 in
theorem b_Mo_isFresh_46 {l : Launch} {Gr : zG} {n w : Nat} {d : Nat} {S : zS} {Q : Option Value → zS → Prop}  (g0 : vp_in ((S.1 73 20) - 1) 4100) (k0 : ¬ ((S.1 73 13) - 1) = (S.1 84 ((((S.1 73 20) - 1) : Int32).toNatClampNeg)) → zW l Gr (zc n w) 168 M_Mo_isFresh d 70 [none] [] S Q) (k1 : ((S.1 73 13) - 1) = (S.1 84 ((((S.1 73 20) - 1) : Int32).toNatClampNeg)) → zW l Gr (zc n w) 168 M_Mo_isFresh d 66 [none] [] S Q) : zW l Gr (zc n w) 168 M_Mo_isFresh d 46 [some (.ref 105)] [] S Q := by
  refine z_go (Gr := Gr) (zc := zc n w) (K := 168) oV_Mo_isFresh 10 (pc' := 62) (L' := [some (.ref 105)]) (st' := [.int ((S.1 73 20) - 1), .ref 116, .int ((S.1 73 13) - 1)]) rfl ?_
  refine z_iald (Gr := Gr) (c := 84) (oV_Mo_isFresh.1 (62, .iaload) (ip_lk_mem rfl)) (by decide) rfl g0 ?_
  exact z_icne (Gr := Gr) (tgt := 70) (oV_Mo_isFresh.1 (63, .if_icmp .ne 7) (ip_lk_mem rfl)) (by decide) (fun q => (z_forget (k0 q) trivial)) (fun q => (z_forget (k1 q) trivial))
set_option maxRecDepth 100000 in
theorem b_Mo_isFresh_66 {l : Launch} {Gr : zG} {n w : Nat} {d : Nat} {S : zS} {Q : Option Value → zS → Prop}   (k0 : zW l Gr (zc n w) 168 M_Mo_isFresh d 71 [none] [.int 1] S Q) : zW l Gr (zc n w) 168 M_Mo_isFresh d 66 [none] [] S Q := by
  refine z_go (Gr := Gr) (zc := zc n w) (K := 168) oV_Mo_isFresh 2 (pc' := 71) (L' := [none]) (st' := [.int 1]) rfl ?_
  exact k0
theorem e_Mo_isFresh {l : Launch} {Gr : zG} {n w : Nat} {d : Nat} {S : zS} {R : Int32 → zS → Prop}  (k : zW l Gr (zc n w) 168 M_Mo_isFresh d 0 [some (.ref 105)] [] S (fun v S' => ∃ x, v = some (.int x) ∧ (x = 0 ∨ x = 1) ∧ R x S')) : zMi l Gr (zc n w) 168 M_Mo_isFresh d [.ref 105] S R := z_mb oM_Mo_isFresh rfl (Nat.le_of_ble_eq_true rfl) k
set_option maxRecDepth 100000 in
theorem b_Mo_operator_0 {l : Launch} {Gr : zG} {n w : Nat} {d : Nat} {S : zS} {Q : Option Value → zS → Prop} {R : Int32 → zS → Prop} (hg : ip_gk (lg_tbl, vwCl, Gr))   (k0 : zMi l Gr (zc n w) 168 M_Mo_look0 d [.ref 105, .int 0] S R) (k1 : ∀ v S', R v S' → zW l Gr (zc n w) 168 M_Mo_operator (d + 1) 5 [some (.ref 105), none, none] [.int v] S' Q) : zW l Gr (zc n w) 168 M_Mo_operator (d + 1) 0 [some (.ref 105), none, none] [] S Q := by
  refine z_go (Gr := Gr) (zc := zc n w) (K := 168) oV_Mo_operator 2 (pc' := 2) (L' := [some (.ref 105), none, none]) (st' := [.int 0, .ref 105]) rfl ?_
  exact z_callV (Gr := Gr) hg.2.2.1 fT oM_Mo_look0 (oV_Mo_operator.1 (2, .invokevirtual 329) (ip_lk_mem rfl)) ⟨tt_9 _ (List.mem_of_getElem? (i := 41) rfl) rfl, tt_9 _ (List.mem_of_getElem? (i := 43) rfl) rfl, fS_Mo_look0⟩ (c := 73) (ci := 12) (As := [.int 0]) rfl rfl rfl (by decide) rfl (Nat.le_of_ble_eq_true rfl) k0 (fun v S' q => by obtain ⟨x, rfl, q⟩ := q; exact (k1 _ _ q))
set_option maxRecDepth 100000 in
theorem b_Mo_operator_5 {l : Launch} {Gr : zG} {n w : Nat} {d : Nat} {S : zS} {Q : Option Value → zS → Prop} {R : Int32 → zS → Prop} (hg : ip_gk (lg_tbl, vwCl, Gr)) {s0 : Int32}  (k0 : zMi l Gr (zc n w) 168 M_Mo_look0 d [.ref 105, .int 1] S R) (k1 : ∀ v S', R v S' → zW l Gr (zc n w) 168 M_Mo_operator (d + 1) 11 [some (.ref 105), some (.int s0), none] [.int v] S' Q) : zW l Gr (zc n w) 168 M_Mo_operator (d + 1) 5 [some (.ref 105), none, none] [.int s0] S Q := by
  refine z_go (Gr := Gr) (zc := zc n w) (K := 168) oV_Mo_operator 3 (pc' := 8) (L' := [some (.ref 105), some (.int s0), none]) (st' := [.int 1, .ref 105]) rfl ?_
  exact z_callV (Gr := Gr) hg.2.2.1 fT oM_Mo_look0 (oV_Mo_operator.1 (8, .invokevirtual 329) (ip_lk_mem rfl)) ⟨tt_9 _ (List.mem_of_getElem? (i := 41) rfl) rfl, tt_9 _ (List.mem_of_getElem? (i := 43) rfl) rfl, fS_Mo_look0⟩ (c := 73) (ci := 12) (As := [.int 1]) rfl rfl rfl (by decide) rfl (Nat.le_of_ble_eq_true rfl) k0 (fun v S' q => by obtain ⟨x, rfl, q⟩ := q; exact (k1 _ _ q))
set_option maxRecDepth 100000 in
theorem b_Mo_operator_11 {l : Launch} {Gr : zG} {n w : Nat} {d : Nat} {S : zS} {Q : Option Value → zS → Prop} {R : Int32 → zS → Prop} (hg : ip_gk (lg_tbl, vwCl, Gr)) {x1 : Int32} {s0 : Int32}  (k0 : zMi l Gr (zc n w) 168 M_Mo_isPair d [.ref 105] S R) (k1 : ∀ v S', R v S' → zW l Gr (zc n w) 168 M_Mo_operator (d + 1) 16 [none, some (.int x1), some (.int s0)] [.int v] S' Q) : zW l Gr (zc n w) 168 M_Mo_operator (d + 1) 11 [some (.ref 105), some (.int x1), none] [.int s0] S Q := by
  refine z_go (Gr := Gr) (zc := zc n w) (K := 168) oV_Mo_operator 2 (pc' := 13) (L' := [some (.ref 105), some (.int x1), some (.int s0)]) (st' := [.ref 105]) rfl ?_
  exact z_callV (Gr := Gr) hg.2.2.1 fT oM_Mo_isPair (oV_Mo_operator.1 (13, .invokevirtual 405) (ip_lk_mem rfl)) ⟨tt_9 _ (List.mem_of_getElem? (i := 53) rfl) rfl, tt_9 _ (List.mem_of_getElem? (i := 55) rfl) rfl, fS_Mo_isPair⟩ (c := 73) (ci := 12) (As := []) rfl rfl rfl (by decide) rfl (Nat.le_of_ble_eq_true rfl) k0 (fun v S' q => by obtain ⟨x, rfl, q⟩ := q; exact (z_forget (k1 _ _ q) (And.intro rfl (And.intro rfl trivial))))
set_option maxRecDepth 100000 in
theorem b_Mo_operator_16 {l : Launch} {Gr : zG} {n w : Nat} {d : Nat} {S : zS} {Q : Option Value → zS → Prop} {x1 : Int32} {x2 : Int32} {s0 : Int32}  (k0 : s0 = 0 → zW l Gr (zc n w) 168 M_Mo_operator (d + 1) 97 [none, some (.int x1), none] [] S Q) (k1 : ¬ s0 = 0 → zW l Gr (zc n w) 168 M_Mo_operator (d + 1) 19 [none, some (.int x1), some (.int x2)] [] S Q) : zW l Gr (zc n w) 168 M_Mo_operator (d + 1) 16 [none, some (.int x1), some (.int x2)] [.int s0] S Q := by
  exact z_ifeq (Gr := Gr) (tgt := 97) (oV_Mo_operator.1 (16, .ifCond .eq 81) (ip_lk_mem rfl)) (by decide) (fun q => (z_forget (k0 q) (And.intro rfl trivial))) (fun q => (k1 q))
set_option maxRecDepth 100000 in
theorem b_Mo_operator_97 {l : Launch} {Gr : zG} {n w : Nat} {d : Nat} {S : zS} {Q : Option Value → zS → Prop} {x1 : Int32}  (k0 : ¬ x1 = 124 → zW l Gr (zc n w) 168 M_Mo_operator (d + 1) 107 [none, some (.int x1), none] [] S Q) (k1 : x1 = 124 → zW l Gr (zc n w) 168 M_Mo_operator (d + 1) 103 [none, none, none] [] S Q) : zW l Gr (zc n w) 168 M_Mo_operator (d + 1) 97 [none, some (.int x1), none] [] S Q := by
  refine z_go (Gr := Gr) (zc := zc n w) (K := 168) oV_Mo_operator 2 (pc' := 100) (L' := [none, some (.int x1), none]) (st' := [.int 124, .int x1]) rfl ?_
  exact z_icne (Gr := Gr) (tgt := 107) (oV_Mo_operator.1 (100, .if_icmp .ne 7) (ip_lk_mem rfl)) (by decide) (fun q => (k0 q)) (fun q => (z_forget (k1 q) trivial))
set_option maxRecDepth 100000 in
theorem b_Mo_operator_19 {l : Launch} {Gr : zG} {n w : Nat} {d : Nat} {S : zS} {Q : Option Value → zS → Prop} {x1 : Int32} {x2 : Int32}  (k0 : ¬ x1 = 124 → zW l Gr (zc n w) 168 M_Mo_operator (d + 1) 29 [none, some (.int x1), some (.int x2)] [] S Q) (k1 : x1 = 124 → zW l Gr (zc n w) 168 M_Mo_operator (d + 1) 25 [none, none, none] [] S Q) : zW l Gr (zc n w) 168 M_Mo_operator (d + 1) 19 [none, some (.int x1), some (.int x2)] [] S Q := by
  refine z_go (Gr := Gr) (zc := zc n w) (K := 168) oV_Mo_operator 2 (pc' := 22) (L' := [none, some (.int x1), some (.int x2)]) (st' := [.int 124, .int x1]) rfl ?_
  exact z_icne (Gr := Gr) (tgt := 29) (oV_Mo_operator.1 (22, .if_icmp .ne 7) (ip_lk_mem rfl)) (by decide) (fun q => (k0 q)) (fun q => (z_forget (k1 q) trivial))
set_option maxRecDepth 100000 in
theorem b_Mo_operator_107 {l : Launch} {Gr : zG} {n w : Nat} {d : Nat} {S : zS} {Q : Option Value → zS → Prop} {x1 : Int32}  (k0 : ¬ x1 = 94 → zW l Gr (zc n w) 168 M_Mo_operator (d + 1) 117 [none, some (.int x1), none] [] S Q) (k1 : x1 = 94 → zW l Gr (zc n w) 168 M_Mo_operator (d + 1) 113 [none, none, none] [] S Q) : zW l Gr (zc n w) 168 M_Mo_operator (d + 1) 107 [none, some (.int x1), none] [] S Q := by
  refine z_go (Gr := Gr) (zc := zc n w) (K := 168) oV_Mo_operator 2 (pc' := 110) (L' := [none, some (.int x1), none]) (st' := [.int 94, .int x1]) rfl ?_
  exact z_icne (Gr := Gr) (tgt := 117) (oV_Mo_operator.1 (110, .if_icmp .ne 7) (ip_lk_mem rfl)) (by decide) (fun q => (k0 q)) (fun q => (z_forget (k1 q) trivial))
set_option maxRecDepth 100000 in
theorem b_Mo_operator_103 {l : Launch} {Gr : zG} {n w : Nat} {d : Nat} {S : zS} {Q : Option Value → zS → Prop}   (k0 : zW l Gr (zc n w) 168 M_Mo_operator (d + 1) 205 [none, none, none] [.int 3] S Q) : zW l Gr (zc n w) 168 M_Mo_operator (d + 1) 103 [none, none, none] [] S Q := by
  refine z_go (Gr := Gr) (zc := zc n w) (K := 168) oV_Mo_operator 2 (pc' := 205) (L' := [none, none, none]) (st' := [.int 3]) rfl ?_
  exact k0
set_option maxRecDepth 100000 in
theorem b_Mo_operator_29 {l : Launch} {Gr : zG} {n w : Nat} {d : Nat} {S : zS} {Q : Option Value → zS → Prop} {x1 : Int32} {x2 : Int32}  (k0 : ¬ x1 = 38 → zW l Gr (zc n w) 168 M_Mo_operator (d + 1) 39 [none, some (.int x1), some (.int x2)] [] S Q) (k1 : x1 = 38 → zW l Gr (zc n w) 168 M_Mo_operator (d + 1) 35 [none, none, none] [] S Q) : zW l Gr (zc n w) 168 M_Mo_operator (d + 1) 29 [none, some (.int x1), some (.int x2)] [] S Q := by
  refine z_go (Gr := Gr) (zc := zc n w) (K := 168) oV_Mo_operator 2 (pc' := 32) (L' := [none, some (.int x1), some (.int x2)]) (st' := [.int 38, .int x1]) rfl ?_
  exact z_icne (Gr := Gr) (tgt := 39) (oV_Mo_operator.1 (32, .if_icmp .ne 7) (ip_lk_mem rfl)) (by decide) (fun q => (k0 q)) (fun q => (z_forget (k1 q) trivial))
set_option maxRecDepth 100000 in
theorem b_Mo_operator_25 {l : Launch} {Gr : zG} {n w : Nat} {d : Nat} {S : zS} {Q : Option Value → zS → Prop}   (k0 : zW l Gr (zc n w) 168 M_Mo_operator (d + 1) 96 [none, none, none] [.int 1] S Q) : zW l Gr (zc n w) 168 M_Mo_operator (d + 1) 25 [none, none, none] [] S Q := by
  refine z_go (Gr := Gr) (zc := zc n w) (K := 168) oV_Mo_operator 2 (pc' := 96) (L' := [none, none, none]) (st' := [.int 1]) rfl ?_
  exact k0
set_option maxRecDepth 100000 in
theorem b_Mo_operator_117 {l : Launch} {Gr : zG} {n w : Nat} {d : Nat} {S : zS} {Q : Option Value → zS → Prop} {x1 : Int32}  (k0 : ¬ x1 = 38 → zW l Gr (zc n w) 168 M_Mo_operator (d + 1) 127 [none, some (.int x1), none] [] S Q) (k1 : x1 = 38 → zW l Gr (zc n w) 168 M_Mo_operator (d + 1) 123 [none, none, none] [] S Q) : zW l Gr (zc n w) 168 M_Mo_operator (d + 1) 117 [none, some (.int x1), none] [] S Q := by
  refine z_go (Gr := Gr) (zc := zc n w) (K := 168) oV_Mo_operator 2 (pc' := 120) (L' := [none, some (.int x1), none]) (st' := [.int 38, .int x1]) rfl ?_
  exact z_icne (Gr := Gr) (tgt := 127) (oV_Mo_operator.1 (120, .if_icmp .ne 7) (ip_lk_mem rfl)) (by decide) (fun q => (k0 q)) (fun q => (z_forget (k1 q) trivial))
set_option maxRecDepth 100000 in
theorem b_Mo_operator_113 {l : Launch} {Gr : zG} {n w : Nat} {d : Nat} {S : zS} {Q : Option Value → zS → Prop}   (k0 : zW l Gr (zc n w) 168 M_Mo_operator (d + 1) 205 [none, none, none] [.int 4] S Q) : zW l Gr (zc n w) 168 M_Mo_operator (d + 1) 113 [none, none, none] [] S Q := by
  refine z_go (Gr := Gr) (zc := zc n w) (K := 168) oV_Mo_operator 2 (pc' := 205) (L' := [none, none, none]) (st' := [.int 4]) rfl ?_
  exact k0
set_option maxRecDepth 100000 in
theorem b_Mo_operator_205 {l : Launch} {Gr : zG} {n w : Nat} {d : Nat} {S : zS} {Q : Option Value → zS → Prop} {s0 : Int32}  (k0 : Q (some (.int s0)) S) : zW l Gr (zc n w) 168 M_Mo_operator (d + 1) 205 [none, none, none] [.int s0] S Q := by
  exact z_ret (v := (some (.int s0))) (oV_Mo_operator.1 (205, .ireturn) (ip_lk_mem rfl)) k0
set_option maxRecDepth 100000 in
theorem b_Mo_operator_39 {l : Launch} {Gr : zG} {n w : Nat} {d : Nat} {S : zS} {Q : Option Value → zS → Prop} {x1 : Int32} {x2 : Int32}  (k0 : ¬ x1 = 61 → zW l Gr (zc n w) 168 M_Mo_operator (d + 1) 50 [none, some (.int x1), some (.int x2)] [] S Q) (k1 : x1 = 61 → zW l Gr (zc n w) 168 M_Mo_operator (d + 1) 45 [none, none, none] [] S Q) : zW l Gr (zc n w) 168 M_Mo_operator (d + 1) 39 [none, some (.int x1), some (.int x2)] [] S Q := by
  refine z_go (Gr := Gr) (zc := zc n w) (K := 168) oV_Mo_operator 2 (pc' := 42) (L' := [none, some (.int x1), some (.int x2)]) (st' := [.int 61, .int x1]) rfl ?_
  exact z_icne (Gr := Gr) (tgt := 50) (oV_Mo_operator.1 (42, .if_icmp .ne 8) (ip_lk_mem rfl)) (by decide) (fun q => (k0 q)) (fun q => (z_forget (k1 q) trivial))
set_option maxRecDepth 100000 in
theorem b_Mo_operator_35 {l : Launch} {Gr : zG} {n w : Nat} {d : Nat} {S : zS} {Q : Option Value → zS → Prop}   (k0 : zW l Gr (zc n w) 168 M_Mo_operator (d + 1) 96 [none, none, none] [.int 2] S Q) : zW l Gr (zc n w) 168 M_Mo_operator (d + 1) 35 [none, none, none] [] S Q := by
  refine z_go (Gr := Gr) (zc := zc n w) (K := 168) oV_Mo_operator 2 (pc' := 96) (L' := [none, none, none]) (st' := [.int 2]) rfl ?_
  exact k0
set_option maxRecDepth 100000 in
theorem b_Mo_operator_96 {l : Launch} {Gr : zG} {n w : Nat} {d : Nat} {S : zS} {Q : Option Value → zS → Prop} {s0 : Int32}  (k0 : Q (some (.int s0)) S) : zW l Gr (zc n w) 168 M_Mo_operator (d + 1) 96 [none, none, none] [.int s0] S Q := by
  exact z_ret (v := (some (.int s0))) (oV_Mo_operator.1 (96, .ireturn) (ip_lk_mem rfl)) k0
set_option maxRecDepth 100000 in
theorem b_Mo_operator_127 {l : Launch} {Gr : zG} {n w : Nat} {d : Nat} {S : zS} {Q : Option Value → zS → Prop} {x1 : Int32}  (k0 : ¬ x1 = 60 → zW l Gr (zc n w) 168 M_Mo_operator (d + 1) 138 [none, some (.int x1), none] [] S Q) (k1 : x1 = 60 → zW l Gr (zc n w) 168 M_Mo_operator (d + 1) 133 [none, none, none] [] S Q) : zW l Gr (zc n w) 168 M_Mo_operator (d + 1) 127 [none, some (.int x1), none] [] S Q := by
  refine z_go (Gr := Gr) (zc := zc n w) (K := 168) oV_Mo_operator 2 (pc' := 130) (L' := [none, some (.int x1), none]) (st' := [.int 60, .int x1]) rfl ?_
  exact z_icne (Gr := Gr) (tgt := 138) (oV_Mo_operator.1 (130, .if_icmp .ne 8) (ip_lk_mem rfl)) (by decide) (fun q => (k0 q)) (fun q => (z_forget (k1 q) trivial))
set_option maxRecDepth 100000 in
theorem b_Mo_operator_123 {l : Launch} {Gr : zG} {n w : Nat} {d : Nat} {S : zS} {Q : Option Value → zS → Prop}   (k0 : zW l Gr (zc n w) 168 M_Mo_operator (d + 1) 205 [none, none, none] [.int 5] S Q) : zW l Gr (zc n w) 168 M_Mo_operator (d + 1) 123 [none, none, none] [] S Q := by
  refine z_go (Gr := Gr) (zc := zc n w) (K := 168) oV_Mo_operator 2 (pc' := 205) (L' := [none, none, none]) (st' := [.int 5]) rfl ?_
  exact k0
set_option maxRecDepth 100000 in
theorem b_Mo_operator_50 {l : Launch} {Gr : zG} {n w : Nat} {d : Nat} {S : zS} {Q : Option Value → zS → Prop} {x1 : Int32} {x2 : Int32}  (k0 : ¬ x1 = 33 → zW l Gr (zc n w) 168 M_Mo_operator (d + 1) 61 [none, some (.int x1), some (.int x2)] [] S Q) (k1 : x1 = 33 → zW l Gr (zc n w) 168 M_Mo_operator (d + 1) 56 [none, none, none] [] S Q) : zW l Gr (zc n w) 168 M_Mo_operator (d + 1) 50 [none, some (.int x1), some (.int x2)] [] S Q := by
  refine z_go (Gr := Gr) (zc := zc n w) (K := 168) oV_Mo_operator 2 (pc' := 53) (L' := [none, some (.int x1), some (.int x2)]) (st' := [.int 33, .int x1]) rfl ?_
  exact z_icne (Gr := Gr) (tgt := 61) (oV_Mo_operator.1 (53, .if_icmp .ne 8) (ip_lk_mem rfl)) (by decide) (fun q => (k0 q)) (fun q => (z_forget (k1 q) trivial))
set_option maxRecDepth 100000 in
theorem b_Mo_operator_45 {l : Launch} {Gr : zG} {n w : Nat} {d : Nat} {S : zS} {Q : Option Value → zS → Prop}   (k0 : zW l Gr (zc n w) 168 M_Mo_operator (d + 1) 96 [none, none, none] [.int 6] S Q) : zW l Gr (zc n w) 168 M_Mo_operator (d + 1) 45 [none, none, none] [] S Q := by
  refine z_go (Gr := Gr) (zc := zc n w) (K := 168) oV_Mo_operator 2 (pc' := 96) (L' := [none, none, none]) (st' := [.int 6]) rfl ?_
  exact k0
set_option maxRecDepth 100000 in
theorem b_Mo_operator_138 {l : Launch} {Gr : zG} {n w : Nat} {d : Nat} {S : zS} {Q : Option Value → zS → Prop} {x1 : Int32}  (k0 : ¬ x1 = 62 → zW l Gr (zc n w) 168 M_Mo_operator (d + 1) 149 [none, some (.int x1), none] [] S Q) (k1 : x1 = 62 → zW l Gr (zc n w) 168 M_Mo_operator (d + 1) 144 [none, none, none] [] S Q) : zW l Gr (zc n w) 168 M_Mo_operator (d + 1) 138 [none, some (.int x1), none] [] S Q := by
  refine z_go (Gr := Gr) (zc := zc n w) (K := 168) oV_Mo_operator 2 (pc' := 141) (L' := [none, some (.int x1), none]) (st' := [.int 62, .int x1]) rfl ?_
  exact z_icne (Gr := Gr) (tgt := 149) (oV_Mo_operator.1 (141, .if_icmp .ne 8) (ip_lk_mem rfl)) (by decide) (fun q => (k0 q)) (fun q => (z_forget (k1 q) trivial))
set_option maxRecDepth 100000 in
theorem b_Mo_operator_133 {l : Launch} {Gr : zG} {n w : Nat} {d : Nat} {S : zS} {Q : Option Value → zS → Prop}   (k0 : zW l Gr (zc n w) 168 M_Mo_operator (d + 1) 205 [none, none, none] [.int 8] S Q) : zW l Gr (zc n w) 168 M_Mo_operator (d + 1) 133 [none, none, none] [] S Q := by
  refine z_go (Gr := Gr) (zc := zc n w) (K := 168) oV_Mo_operator 2 (pc' := 205) (L' := [none, none, none]) (st' := [.int 8]) rfl ?_
  exact k0
set_option maxRecDepth 100000 in
theorem b_Mo_operator_61 {l : Launch} {Gr : zG} {n w : Nat} {d : Nat} {S : zS} {Q : Option Value → zS → Prop} {x1 : Int32} {x2 : Int32}  (k0 : ¬ x1 = 60 → zW l Gr (zc n w) 168 M_Mo_operator (d + 1) 83 [none, none, some (.int x2)] [] S Q) (k1 : x1 = 60 → zW l Gr (zc n w) 168 M_Mo_operator (d + 1) 67 [none, none, some (.int x2)] [] S Q) : zW l Gr (zc n w) 168 M_Mo_operator (d + 1) 61 [none, some (.int x1), some (.int x2)] [] S Q := by
  refine z_go (Gr := Gr) (zc := zc n w) (K := 168) oV_Mo_operator 2 (pc' := 64) (L' := [none, some (.int x1), some (.int x2)]) (st' := [.int 60, .int x1]) rfl ?_
  exact z_icne (Gr := Gr) (tgt := 83) (oV_Mo_operator.1 (64, .if_icmp .ne 19) (ip_lk_mem rfl)) (by decide) (fun q => (z_forget (k0 q) (And.intro rfl trivial))) (fun q => (z_forget (k1 q) (And.intro rfl trivial)))
set_option maxRecDepth 100000 in
theorem b_Mo_operator_56 {l : Launch} {Gr : zG} {n w : Nat} {d : Nat} {S : zS} {Q : Option Value → zS → Prop}   (k0 : zW l Gr (zc n w) 168 M_Mo_operator (d + 1) 96 [none, none, none] [.int 7] S Q) : zW l Gr (zc n w) 168 M_Mo_operator (d + 1) 56 [none, none, none] [] S Q := by
  refine z_go (Gr := Gr) (zc := zc n w) (K := 168) oV_Mo_operator 2 (pc' := 96) (L' := [none, none, none]) (st' := [.int 7]) rfl ?_
  exact k0
set_option maxRecDepth 100000 in
theorem b_Mo_operator_149 {l : Launch} {Gr : zG} {n w : Nat} {d : Nat} {S : zS} {Q : Option Value → zS → Prop} {x1 : Int32}  (k0 : ¬ x1 = 43 → zW l Gr (zc n w) 168 M_Mo_operator (d + 1) 160 [none, some (.int x1), none] [] S Q) (k1 : x1 = 43 → zW l Gr (zc n w) 168 M_Mo_operator (d + 1) 155 [none, none, none] [] S Q) : zW l Gr (zc n w) 168 M_Mo_operator (d + 1) 149 [none, some (.int x1), none] [] S Q := by
  refine z_go (Gr := Gr) (zc := zc n w) (K := 168) oV_Mo_operator 2 (pc' := 152) (L' := [none, some (.int x1), none]) (st' := [.int 43, .int x1]) rfl ?_
  exact z_icne (Gr := Gr) (tgt := 160) (oV_Mo_operator.1 (152, .if_icmp .ne 8) (ip_lk_mem rfl)) (by decide) (fun q => (k0 q)) (fun q => (z_forget (k1 q) trivial))
set_option maxRecDepth 100000 in
theorem b_Mo_operator_144 {l : Launch} {Gr : zG} {n w : Nat} {d : Nat} {S : zS} {Q : Option Value → zS → Prop}   (k0 : zW l Gr (zc n w) 168 M_Mo_operator (d + 1) 205 [none, none, none] [.int 10] S Q) : zW l Gr (zc n w) 168 M_Mo_operator (d + 1) 144 [none, none, none] [] S Q := by
  refine z_go (Gr := Gr) (zc := zc n w) (K := 168) oV_Mo_operator 2 (pc' := 205) (L' := [none, none, none]) (st' := [.int 10]) rfl ?_
  exact k0
set_option maxRecDepth 100000 in
theorem b_Mo_operator_83 {l : Launch} {Gr : zG} {n w : Nat} {d : Nat} {S : zS} {Q : Option Value → zS → Prop} {x2 : Int32}  (k0 : ¬ x2 = 62 → zW l Gr (zc n w) 168 M_Mo_operator (d + 1) 94 [none, none, none] [] S Q) (k1 : x2 = 62 → zW l Gr (zc n w) 168 M_Mo_operator (d + 1) 89 [none, none, none] [] S Q) : zW l Gr (zc n w) 168 M_Mo_operator (d + 1) 83 [none, none, some (.int x2)] [] S Q := by
  refine z_go (Gr := Gr) (zc := zc n w) (K := 168) oV_Mo_operator 2 (pc' := 86) (L' := [none, none, some (.int x2)]) (st' := [.int 62, .int x2]) rfl ?_
  exact z_icne (Gr := Gr) (tgt := 94) (oV_Mo_operator.1 (86, .if_icmp .ne 8) (ip_lk_mem rfl)) (by decide) (fun q => (z_forget (k0 q) trivial)) (fun q => (z_forget (k1 q) trivial))
set_option maxRecDepth 100000 in
theorem b_Mo_operator_67 {l : Launch} {Gr : zG} {n w : Nat} {d : Nat} {S : zS} {Q : Option Value → zS → Prop} {x2 : Int32}  (k0 : ¬ x2 = 60 → zW l Gr (zc n w) 168 M_Mo_operator (d + 1) 78 [none, none, none] [] S Q) (k1 : x2 = 60 → zW l Gr (zc n w) 168 M_Mo_operator (d + 1) 73 [none, none, none] [] S Q) : zW l Gr (zc n w) 168 M_Mo_operator (d + 1) 67 [none, none, some (.int x2)] [] S Q := by
  refine z_go (Gr := Gr) (zc := zc n w) (K := 168) oV_Mo_operator 2 (pc' := 70) (L' := [none, none, some (.int x2)]) (st' := [.int 60, .int x2]) rfl ?_
  exact z_icne (Gr := Gr) (tgt := 78) (oV_Mo_operator.1 (70, .if_icmp .ne 8) (ip_lk_mem rfl)) (by decide) (fun q => (z_forget (k0 q) trivial)) (fun q => (z_forget (k1 q) trivial))
set_option maxRecDepth 100000 in
theorem b_Mo_operator_160 {l : Launch} {Gr : zG} {n w : Nat} {d : Nat} {S : zS} {Q : Option Value → zS → Prop} {x1 : Int32}  (k0 : ¬ x1 = 45 → zW l Gr (zc n w) 168 M_Mo_operator (d + 1) 171 [none, some (.int x1), none] [] S Q) (k1 : x1 = 45 → zW l Gr (zc n w) 168 M_Mo_operator (d + 1) 166 [none, none, none] [] S Q) : zW l Gr (zc n w) 168 M_Mo_operator (d + 1) 160 [none, some (.int x1), none] [] S Q := by
  refine z_go (Gr := Gr) (zc := zc n w) (K := 168) oV_Mo_operator 2 (pc' := 163) (L' := [none, some (.int x1), none]) (st' := [.int 45, .int x1]) rfl ?_
  exact z_icne (Gr := Gr) (tgt := 171) (oV_Mo_operator.1 (163, .if_icmp .ne 8) (ip_lk_mem rfl)) (by decide) (fun q => (k0 q)) (fun q => (z_forget (k1 q) trivial))
set_option maxRecDepth 100000 in
theorem b_Mo_operator_155 {l : Launch} {Gr : zG} {n w : Nat} {d : Nat} {S : zS} {Q : Option Value → zS → Prop}   (k0 : zW l Gr (zc n w) 168 M_Mo_operator (d + 1) 205 [none, none, none] [.int 14] S Q) : zW l Gr (zc n w) 168 M_Mo_operator (d + 1) 155 [none, none, none] [] S Q := by
  refine z_go (Gr := Gr) (zc := zc n w) (K := 168) oV_Mo_operator 2 (pc' := 205) (L' := [none, none, none]) (st' := [.int 14]) rfl ?_
  exact k0
set_option maxRecDepth 100000 in
theorem b_Mo_operator_94 {l : Launch} {Gr : zG} {n w : Nat} {d : Nat} {S : zS} {Q : Option Value → zS → Prop}   (k0 : zW l Gr (zc n w) 168 M_Mo_operator (d + 1) 96 [none, none, none] [.int 11] S Q) : zW l Gr (zc n w) 168 M_Mo_operator (d + 1) 94 [none, none, none] [] S Q := by
  refine z_go (Gr := Gr) (zc := zc n w) (K := 168) oV_Mo_operator 1 (pc' := 96) (L' := [none, none, none]) (st' := [.int 11]) rfl ?_
  exact k0
set_option maxRecDepth 100000 in
theorem b_Mo_operator_89 {l : Launch} {Gr : zG} {n w : Nat} {d : Nat} {S : zS} {Q : Option Value → zS → Prop}   (k0 : zW l Gr (zc n w) 168 M_Mo_operator (d + 1) 96 [none, none, none] [.int 13] S Q) : zW l Gr (zc n w) 168 M_Mo_operator (d + 1) 89 [none, none, none] [] S Q := by
  refine z_go (Gr := Gr) (zc := zc n w) (K := 168) oV_Mo_operator 2 (pc' := 96) (L' := [none, none, none]) (st' := [.int 13]) rfl ?_
  exact k0
set_option maxRecDepth 100000 in
theorem b_Mo_operator_78 {l : Launch} {Gr : zG} {n w : Nat} {d : Nat} {S : zS} {Q : Option Value → zS → Prop}   (k0 : zW l Gr (zc n w) 168 M_Mo_operator (d + 1) 96 [none, none, none] [.int 9] S Q) : zW l Gr (zc n w) 168 M_Mo_operator (d + 1) 78 [none, none, none] [] S Q := by
  refine z_go (Gr := Gr) (zc := zc n w) (K := 168) oV_Mo_operator 2 (pc' := 96) (L' := [none, none, none]) (st' := [.int 9]) rfl ?_
  exact k0
set_option maxRecDepth 100000 in
theorem b_Mo_operator_73 {l : Launch} {Gr : zG} {n w : Nat} {d : Nat} {S : zS} {Q : Option Value → zS → Prop}   (k0 : zW l Gr (zc n w) 168 M_Mo_operator (d + 1) 96 [none, none, none] [.int 12] S Q) : zW l Gr (zc n w) 168 M_Mo_operator (d + 1) 73 [none, none, none] [] S Q := by
  refine z_go (Gr := Gr) (zc := zc n w) (K := 168) oV_Mo_operator 2 (pc' := 96) (L' := [none, none, none]) (st' := [.int 12]) rfl ?_
  exact k0
set_option maxRecDepth 100000 in
theorem b_Mo_operator_171 {l : Launch} {Gr : zG} {n w : Nat} {d : Nat} {S : zS} {Q : Option Value → zS → Prop} {x1 : Int32}  (k0 : ¬ x1 = 42 → zW l Gr (zc n w) 168 M_Mo_operator (d + 1) 182 [none, some (.int x1), none] [] S Q) (k1 : x1 = 42 → zW l Gr (zc n w) 168 M_Mo_operator (d + 1) 177 [none, none, none] [] S Q) : zW l Gr (zc n w) 168 M_Mo_operator (d + 1) 171 [none, some (.int x1), none] [] S Q := by
  refine z_go (Gr := Gr) (zc := zc n w) (K := 168) oV_Mo_operator 2 (pc' := 174) (L' := [none, some (.int x1), none]) (st' := [.int 42, .int x1]) rfl ?_
  exact z_icne (Gr := Gr) (tgt := 182) (oV_Mo_operator.1 (174, .if_icmp .ne 8) (ip_lk_mem rfl)) (by decide) (fun q => (k0 q)) (fun q => (z_forget (k1 q) trivial))
set_option maxRecDepth 100000 in
theorem b_Mo_operator_166 {l : Launch} {Gr : zG} {n w : Nat} {d : Nat} {S : zS} {Q : Option Value → zS → Prop}   (k0 : zW l Gr (zc n w) 168 M_Mo_operator (d + 1) 205 [none, none, none] [.int 15] S Q) : zW l Gr (zc n w) 168 M_Mo_operator (d + 1) 166 [none, none, none] [] S Q := by
  refine z_go (Gr := Gr) (zc := zc n w) (K := 168) oV_Mo_operator 2 (pc' := 205) (L' := [none, none, none]) (st' := [.int 15]) rfl ?_
  exact k0
set_option maxRecDepth 100000 in
theorem b_Mo_operator_182 {l : Launch} {Gr : zG} {n w : Nat} {d : Nat} {S : zS} {Q : Option Value → zS → Prop} {x1 : Int32}  (k0 : ¬ x1 = 47 → zW l Gr (zc n w) 168 M_Mo_operator (d + 1) 193 [none, some (.int x1), none] [] S Q) (k1 : x1 = 47 → zW l Gr (zc n w) 168 M_Mo_operator (d + 1) 188 [none, none, none] [] S Q) : zW l Gr (zc n w) 168 M_Mo_operator (d + 1) 182 [none, some (.int x1), none] [] S Q := by
  refine z_go (Gr := Gr) (zc := zc n w) (K := 168) oV_Mo_operator 2 (pc' := 185) (L' := [none, some (.int x1), none]) (st' := [.int 47, .int x1]) rfl ?_
  exact z_icne (Gr := Gr) (tgt := 193) (oV_Mo_operator.1 (185, .if_icmp .ne 8) (ip_lk_mem rfl)) (by decide) (fun q => (k0 q)) (fun q => (z_forget (k1 q) trivial))
set_option maxRecDepth 100000 in
theorem b_Mo_operator_177 {l : Launch} {Gr : zG} {n w : Nat} {d : Nat} {S : zS} {Q : Option Value → zS → Prop}   (k0 : zW l Gr (zc n w) 168 M_Mo_operator (d + 1) 205 [none, none, none] [.int 16] S Q) : zW l Gr (zc n w) 168 M_Mo_operator (d + 1) 177 [none, none, none] [] S Q := by
  refine z_go (Gr := Gr) (zc := zc n w) (K := 168) oV_Mo_operator 2 (pc' := 205) (L' := [none, none, none]) (st' := [.int 16]) rfl ?_
  exact k0
set_option maxRecDepth 100000 in
theorem b_Mo_operator_193 {l : Launch} {Gr : zG} {n w : Nat} {d : Nat} {S : zS} {Q : Option Value → zS → Prop} {x1 : Int32}  (k0 : ¬ x1 = 37 → zW l Gr (zc n w) 168 M_Mo_operator (d + 1) 204 [none, none, none] [] S Q) (k1 : x1 = 37 → zW l Gr (zc n w) 168 M_Mo_operator (d + 1) 199 [none, none, none] [] S Q) : zW l Gr (zc n w) 168 M_Mo_operator (d + 1) 193 [none, some (.int x1), none] [] S Q := by
  refine z_go (Gr := Gr) (zc := zc n w) (K := 168) oV_Mo_operator 2 (pc' := 196) (L' := [none, some (.int x1), none]) (st' := [.int 37, .int x1]) rfl ?_
  exact z_icne (Gr := Gr) (tgt := 204) (oV_Mo_operator.1 (196, .if_icmp .ne 8) (ip_lk_mem rfl)) (by decide) (fun q => (z_forget (k0 q) trivial)) (fun q => (z_forget (k1 q) trivial))
set_option maxRecDepth 100000 in
theorem b_Mo_operator_188 {l : Launch} {Gr : zG} {n w : Nat} {d : Nat} {S : zS} {Q : Option Value → zS → Prop}   (k0 : zW l Gr (zc n w) 168 M_Mo_operator (d + 1) 205 [none, none, none] [.int 17] S Q) : zW l Gr (zc n w) 168 M_Mo_operator (d + 1) 188 [none, none, none] [] S Q := by
  refine z_go (Gr := Gr) (zc := zc n w) (K := 168) oV_Mo_operator 2 (pc' := 205) (L' := [none, none, none]) (st' := [.int 17]) rfl ?_
  exact k0
set_option maxRecDepth 100000 in
theorem b_Mo_operator_204 {l : Launch} {Gr : zG} {n w : Nat} {d : Nat} {S : zS} {Q : Option Value → zS → Prop}   (k0 : zW l Gr (zc n w) 168 M_Mo_operator (d + 1) 205 [none, none, none] [.int 0] S Q) : zW l Gr (zc n w) 168 M_Mo_operator (d + 1) 204 [none, none, none] [] S Q := by
  refine z_go (Gr := Gr) (zc := zc n w) (K := 168) oV_Mo_operator 1 (pc' := 205) (L' := [none, none, none]) (st' := [.int 0]) rfl ?_
  exact k0
set_option maxRecDepth 100000 in
theorem b_Mo_operator_199 {l : Launch} {Gr : zG} {n w : Nat} {d : Nat} {S : zS} {Q : Option Value → zS → Prop}   (k0 : zW l Gr (zc n w) 168 M_Mo_operator (d + 1) 205 [none, none, none] [.int 18] S Q) : zW l Gr (zc n w) 168 M_Mo_operator (d + 1) 199 [none, none, none] [] S Q := by
  refine z_go (Gr := Gr) (zc := zc n w) (K := 168) oV_Mo_operator 2 (pc' := 205) (L' := [none, none, none]) (st' := [.int 18]) rfl ?_
  exact k0
theorem e_Mo_operator {l : Launch} {Gr : zG} {n w : Nat} {d : Nat} {S : zS} {R : Int32 → zS → Prop}  (k : zW l Gr (zc n w) 168 M_Mo_operator (d + 1) 0 [some (.ref 105), none, none] [] S (fun v S' => ∃ x, v = some (.int x) ∧ R x S')) : zMi l Gr (zc n w) 168 M_Mo_operator (d + 1) [.ref 105] S R := z_mi oM_Mo_operator rfl (Nat.le_of_ble_eq_true rfl) k
set_option maxRecDepth 100000 in
theorem b_Mo_push_0 {l : Launch} {Gr : zG} {n w : Nat} {d : Nat} {S : zS} {Q : Option Value → zS → Prop} {x1 : Int32} {x2 : Int32} {x3 : Int32} (g0 : vp_in (S.1 73 20) 4100) (k0 : Q none (zi (zi (zi (zi (zi S 83 (((S.1 73 20) : Int32).toNatClampNeg) x1) 84 (((S.1 73 20) : Int32).toNatClampNeg) x2) 85 (((S.1 73 20) : Int32).toNatClampNeg) x3) 86 (((S.1 73 20) : Int32).toNatClampNeg) 0) 73 20 ((S.1 73 20) + 1))) : zW l Gr (zc n w) 168 M_Mo_push d 0 [some (.ref 105), some (.int x1), some (.int x2), some (.int x3)] [] S Q := by
  refine z_go (Gr := Gr) (zc := zc n w) (K := 168) oV_Mo_push 5 (pc' := 9) (L' := [some (.ref 105), some (.int x1), some (.int x2), some (.int x3)]) (st' := [.int x1, .int (S.1 73 20), .ref 115]) rfl ?_
  refine z_iast (Gr := Gr) (c := 83) (oV_Mo_push.1 (9, .iastore) (ip_lk_mem rfl)) (by decide) (fun _ => rfl) g0 ?_
  refine z_go (Gr := Gr) (zc := zc n w) (K := 168) oV_Mo_push 3 (pc' := 15) (L' := [some (.ref 105), some (.int x1), some (.int x2), some (.int x3)]) (st' := [.ref 105, .ref 116]) rfl ?_
  refine z_getI (Gr := Gr) (c := 73) (oV_Mo_push.1 (15, .getfield 417) (ip_lk_mem rfl)) (oV_Mo_push.2.1 (417, 12, 20, .int, false) (ip_lk_mem rfl)).1 (by decide) (zo_73 _ _ _ _) (zg_73_20 _ _ _ _) (zi_c (by decide)) ?_
  refine z_go (Gr := Gr) (zc := zc n w) (K := 168) oV_Mo_push 1 (pc' := 19) (L' := [some (.ref 105), some (.int x1), some (.int x2), some (.int x3)]) (st' := [.int x2, .int (S.1 73 20), .ref 116]) rfl ?_
  refine z_iast (Gr := Gr) (c := 84) (oV_Mo_push.1 (19, .iastore) (ip_lk_mem rfl)) (by decide) (fun _ => rfl) g0 ?_
  refine z_go (Gr := Gr) (zc := zc n w) (K := 168) oV_Mo_push 3 (pc' := 25) (L' := [some (.ref 105), some (.int x1), some (.int x2), some (.int x3)]) (st' := [.ref 105, .ref 117]) rfl ?_
  refine z_getI (Gr := Gr) (c := 73) (oV_Mo_push.1 (25, .getfield 417) (ip_lk_mem rfl)) (oV_Mo_push.2.1 (417, 12, 20, .int, false) (ip_lk_mem rfl)).1 (by decide) (zo_73 _ _ _ _) (zg_73_20 _ _ _ _) (Eq.trans (zi_c (by decide)) (zi_c (by decide))) ?_
  refine z_go (Gr := Gr) (zc := zc n w) (K := 168) oV_Mo_push 1 (pc' := 29) (L' := [some (.ref 105), some (.int x1), some (.int x2), some (.int x3)]) (st' := [.int x3, .int (S.1 73 20), .ref 117]) rfl ?_
  refine z_iast (Gr := Gr) (c := 85) (oV_Mo_push.1 (29, .iastore) (ip_lk_mem rfl)) (by decide) (fun _ => rfl) g0 ?_
  refine z_go (Gr := Gr) (zc := zc n w) (K := 168) oV_Mo_push 3 (pc' := 35) (L' := [some (.ref 105), some (.int x1), some (.int x2), some (.int x3)]) (st' := [.ref 105, .ref 118]) rfl ?_
  refine z_getI (Gr := Gr) (c := 73) (oV_Mo_push.1 (35, .getfield 417) (ip_lk_mem rfl)) (oV_Mo_push.2.1 (417, 12, 20, .int, false) (ip_lk_mem rfl)).1 (by decide) (zo_73 _ _ _ _) (zg_73_20 _ _ _ _) (Eq.trans (zi_c (by decide)) (Eq.trans (zi_c (by decide)) (zi_c (by decide)))) ?_
  refine z_go (Gr := Gr) (zc := zc n w) (K := 168) oV_Mo_push 1 (pc' := 39) (L' := [some (.ref 105), some (.int x1), some (.int x2), some (.int x3)]) (st' := [.int 0, .int (S.1 73 20), .ref 118]) rfl ?_
  refine z_iast (Gr := Gr) (c := 86) (oV_Mo_push.1 (39, .iastore) (ip_lk_mem rfl)) (by decide) (fun _ => rfl) g0 ?_
  refine z_go (Gr := Gr) (zc := zc n w) (K := 168) oV_Mo_push 2 (pc' := 42) (L' := [some (.ref 105), some (.int x1), some (.int x2), some (.int x3)]) (st' := [.ref 105, .ref 105]) rfl ?_
  refine z_getI (Gr := Gr) (c := 73) (oV_Mo_push.1 (42, .getfield 417) (ip_lk_mem rfl)) (oV_Mo_push.2.1 (417, 12, 20, .int, false) (ip_lk_mem rfl)).1 (by decide) (zo_73 _ _ _ _) (zg_73_20 _ _ _ _) (Eq.trans (zi_c (by decide)) (Eq.trans (zi_c (by decide)) (Eq.trans (zi_c (by decide)) (zi_c (by decide))))) ?_
  refine z_go (Gr := Gr) (zc := zc n w) (K := 168) oV_Mo_push 2 (pc' := 47) (L' := [some (.ref 105), some (.int x1), some (.int x2), some (.int x3)]) (st' := [.int ((S.1 73 20) + 1), .ref 105]) rfl ?_
  refine z_putI (Gr := Gr) (c := 73) (oV_Mo_push.1 (47, .putfield 417) (ip_lk_mem rfl)) (oV_Mo_push.2.1 (417, 12, 20, .int, false) (ip_lk_mem rfl)).1 (by decide) (zo_73 _ _ _ _) (zs_73_20 _ _ _ _ _) (zn_73_20 _ _ _ _) rfl ?_
  exact z_ret (v := none) (oV_Mo_push.1 (50, .return_) (ip_lk_mem rfl)) k0
theorem e_Mo_push {l : Launch} {Gr : zG} {n w : Nat} {d : Nat} {S : zS} {R : zS → Prop} {x1 : Int32} {x2 : Int32} {x3 : Int32} (k : zW l Gr (zc n w) 168 M_Mo_push d 0 [some (.ref 105), some (.int x1), some (.int x2), some (.int x3)] [] S (fun v S' => v = none ∧ R S')) : zMv l Gr (zc n w) 168 M_Mo_push d [.ref 105, .int x1, .int x2, .int x3] S R := z_mv oM_Mo_push rfl (Nat.le_of_ble_eq_true rfl) k
set_option maxRecDepth 100000 in
theorem b_Mo_rank_0 {l : Launch} {Gr : zG} {n w : Nat} {d : Nat} {S : zS} {Q : Option Value → zS → Prop} {x0 : Int32}  (k0 : ¬ x0 = 7 → zW l Gr (zc n w) 168 M_Mo_rank d 11 [some (.int x0)] [] S Q) (k1 : x0 = 7 → zW l Gr (zc n w) 168 M_Mo_rank d 6 [none] [] S Q) : zW l Gr (zc n w) 168 M_Mo_rank d 0 [some (.int x0)] [] S Q := by
  refine z_go (Gr := Gr) (zc := zc n w) (K := 168) oV_Mo_rank 2 (pc' := 3) (L' := [some (.int x0)]) (st' := [.int 7, .int x0]) rfl ?_
  exact z_icne (Gr := Gr) (tgt := 11) (oV_Mo_rank.1 (3, .if_icmp .ne 8) (ip_lk_mem rfl)) (by decide) (fun q => (k0 q)) (fun q => (z_forget (k1 q) trivial))
set_option maxRecDepth 100000 in
theorem b_Mo_rank_11 {l : Launch} {Gr : zG} {n w : Nat} {d : Nat} {S : zS} {Q : Option Value → zS → Prop} {x0 : Int32}  (k0 : x0 < 8 → zW l Gr (zc n w) 168 M_Mo_rank d 28 [some (.int x0)] [] S Q) (k1 : ¬ x0 < 8 → zW l Gr (zc n w) 168 M_Mo_rank d 17 [some (.int x0)] [] S Q) : zW l Gr (zc n w) 168 M_Mo_rank d 11 [some (.int x0)] [] S Q := by
  refine z_go (Gr := Gr) (zc := zc n w) (K := 168) oV_Mo_rank 2 (pc' := 14) (L' := [some (.int x0)]) (st' := [.int 8, .int x0]) rfl ?_
  exact z_iclt (Gr := Gr) (tgt := 28) (oV_Mo_rank.1 (14, .if_icmp .lt 14) (ip_lk_mem rfl)) (by decide) (fun q => (k0 q)) (fun q => (k1 q))
set_option maxRecDepth 100000 in
theorem b_Mo_rank_6 {l : Launch} {Gr : zG} {n w : Nat} {d : Nat} {S : zS} {Q : Option Value → zS → Prop}   (k0 : zW l Gr (zc n w) 168 M_Mo_rank d 74 [none] [.int 6] S Q) : zW l Gr (zc n w) 168 M_Mo_rank d 6 [none] [] S Q := by
  refine z_go (Gr := Gr) (zc := zc n w) (K := 168) oV_Mo_rank 2 (pc' := 74) (L' := [none]) (st' := [.int 6]) rfl ?_
  exact k0
set_option maxRecDepth 100000 in
theorem b_Mo_rank_28 {l : Launch} {Gr : zG} {n w : Nat} {d : Nat} {S : zS} {Q : Option Value → zS → Prop} {x0 : Int32}  (k0 : x0 = 12 → zW l Gr (zc n w) 168 M_Mo_rank d 40 [none] [] S Q) (k1 : ¬ x0 = 12 → zW l Gr (zc n w) 168 M_Mo_rank d 34 [some (.int x0)] [] S Q) : zW l Gr (zc n w) 168 M_Mo_rank d 28 [some (.int x0)] [] S Q := by
  refine z_go (Gr := Gr) (zc := zc n w) (K := 168) oV_Mo_rank 2 (pc' := 31) (L' := [some (.int x0)]) (st' := [.int 12, .int x0]) rfl ?_
  exact z_iceq (Gr := Gr) (tgt := 40) (oV_Mo_rank.1 (31, .if_icmp .eq 9) (ip_lk_mem rfl)) (by decide) (fun q => (z_forget (k0 q) trivial)) (fun q => (k1 q))
set_option maxRecDepth 100000 in
theorem b_Mo_rank_17 {l : Launch} {Gr : zG} {n w : Nat} {d : Nat} {S : zS} {Q : Option Value → zS → Prop} {x0 : Int32}  (k0 : 11 < x0 → zW l Gr (zc n w) 168 M_Mo_rank d 28 [some (.int x0)] [] S Q) (k1 : ¬ 11 < x0 → zW l Gr (zc n w) 168 M_Mo_rank d 23 [none] [] S Q) : zW l Gr (zc n w) 168 M_Mo_rank d 17 [some (.int x0)] [] S Q := by
  refine z_go (Gr := Gr) (zc := zc n w) (K := 168) oV_Mo_rank 2 (pc' := 20) (L' := [some (.int x0)]) (st' := [.int 11, .int x0]) rfl ?_
  exact z_icgt (Gr := Gr) (tgt := 28) (oV_Mo_rank.1 (20, .if_icmp .gt 8) (ip_lk_mem rfl)) (by decide) (fun q => (k0 q)) (fun q => (z_forget (k1 q) trivial))
set_option maxRecDepth 100000 in
theorem b_Mo_rank_74 {l : Launch} {Gr : zG} {n w : Nat} {d : Nat} {S : zS} {Q : Option Value → zS → Prop} {s0 : Int32}  (k0 : Q (some (.int s0)) S) : zW l Gr (zc n w) 168 M_Mo_rank d 74 [none] [.int s0] S Q := by
  exact z_ret (v := (some (.int s0))) (oV_Mo_rank.1 (74, .ireturn) (ip_lk_mem rfl)) k0
set_option maxRecDepth 100000 in
theorem b_Mo_rank_40 {l : Launch} {Gr : zG} {n w : Nat} {d : Nat} {S : zS} {Q : Option Value → zS → Prop}   (k0 : zW l Gr (zc n w) 168 M_Mo_rank d 74 [none] [.int 8] S Q) : zW l Gr (zc n w) 168 M_Mo_rank d 40 [none] [] S Q := by
  refine z_go (Gr := Gr) (zc := zc n w) (K := 168) oV_Mo_rank 2 (pc' := 74) (L' := [none]) (st' := [.int 8]) rfl ?_
  exact k0
set_option maxRecDepth 100000 in
theorem b_Mo_rank_34 {l : Launch} {Gr : zG} {n w : Nat} {d : Nat} {S : zS} {Q : Option Value → zS → Prop} {x0 : Int32}  (k0 : ¬ x0 = 13 → zW l Gr (zc n w) 168 M_Mo_rank d 45 [some (.int x0)] [] S Q) (k1 : x0 = 13 → zW l Gr (zc n w) 168 M_Mo_rank d 40 [none] [] S Q) : zW l Gr (zc n w) 168 M_Mo_rank d 34 [some (.int x0)] [] S Q := by
  refine z_go (Gr := Gr) (zc := zc n w) (K := 168) oV_Mo_rank 2 (pc' := 37) (L' := [some (.int x0)]) (st' := [.int 13, .int x0]) rfl ?_
  exact z_icne (Gr := Gr) (tgt := 45) (oV_Mo_rank.1 (37, .if_icmp .ne 8) (ip_lk_mem rfl)) (by decide) (fun q => (k0 q)) (fun q => (z_forget (k1 q) trivial))
set_option maxRecDepth 100000 in
theorem b_Mo_rank_23 {l : Launch} {Gr : zG} {n w : Nat} {d : Nat} {S : zS} {Q : Option Value → zS → Prop}   (k0 : zW l Gr (zc n w) 168 M_Mo_rank d 74 [none] [.int 7] S Q) : zW l Gr (zc n w) 168 M_Mo_rank d 23 [none] [] S Q := by
  refine z_go (Gr := Gr) (zc := zc n w) (K := 168) oV_Mo_rank 2 (pc' := 74) (L' := [none]) (st' := [.int 7]) rfl ?_
  exact k0
set_option maxRecDepth 100000 in
theorem b_Mo_rank_45 {l : Launch} {Gr : zG} {n w : Nat} {d : Nat} {S : zS} {Q : Option Value → zS → Prop} {x0 : Int32}  (k0 : x0 = 14 → zW l Gr (zc n w) 168 M_Mo_rank d 57 [none] [] S Q) (k1 : ¬ x0 = 14 → zW l Gr (zc n w) 168 M_Mo_rank d 51 [some (.int x0)] [] S Q) : zW l Gr (zc n w) 168 M_Mo_rank d 45 [some (.int x0)] [] S Q := by
  refine z_go (Gr := Gr) (zc := zc n w) (K := 168) oV_Mo_rank 2 (pc' := 48) (L' := [some (.int x0)]) (st' := [.int 14, .int x0]) rfl ?_
  exact z_iceq (Gr := Gr) (tgt := 57) (oV_Mo_rank.1 (48, .if_icmp .eq 9) (ip_lk_mem rfl)) (by decide) (fun q => (z_forget (k0 q) trivial)) (fun q => (k1 q))
set_option maxRecDepth 100000 in
theorem b_Mo_rank_57 {l : Launch} {Gr : zG} {n w : Nat} {d : Nat} {S : zS} {Q : Option Value → zS → Prop}   (k0 : zW l Gr (zc n w) 168 M_Mo_rank d 74 [none] [.int 9] S Q) : zW l Gr (zc n w) 168 M_Mo_rank d 57 [none] [] S Q := by
  refine z_go (Gr := Gr) (zc := zc n w) (K := 168) oV_Mo_rank 2 (pc' := 74) (L' := [none]) (st' := [.int 9]) rfl ?_
  exact k0
set_option maxRecDepth 100000 in
theorem b_Mo_rank_51 {l : Launch} {Gr : zG} {n w : Nat} {d : Nat} {S : zS} {Q : Option Value → zS → Prop} {x0 : Int32}  (k0 : ¬ x0 = 15 → zW l Gr (zc n w) 168 M_Mo_rank d 62 [some (.int x0)] [] S Q) (k1 : x0 = 15 → zW l Gr (zc n w) 168 M_Mo_rank d 57 [none] [] S Q) : zW l Gr (zc n w) 168 M_Mo_rank d 51 [some (.int x0)] [] S Q := by
  refine z_go (Gr := Gr) (zc := zc n w) (K := 168) oV_Mo_rank 2 (pc' := 54) (L' := [some (.int x0)]) (st' := [.int 15, .int x0]) rfl ?_
  exact z_icne (Gr := Gr) (tgt := 62) (oV_Mo_rank.1 (54, .if_icmp .ne 8) (ip_lk_mem rfl)) (by decide) (fun q => (k0 q)) (fun q => (z_forget (k1 q) trivial))
set_option maxRecDepth 100000 in
theorem b_Mo_rank_62 {l : Launch} {Gr : zG} {n w : Nat} {d : Nat} {S : zS} {Q : Option Value → zS → Prop} {x0 : Int32}  (k0 : x0 < 16 → zW l Gr (zc n w) 168 M_Mo_rank d 73 [some (.int x0)] [] S Q) (k1 : ¬ x0 < 16 → zW l Gr (zc n w) 168 M_Mo_rank d 68 [none] [] S Q) : zW l Gr (zc n w) 168 M_Mo_rank d 62 [some (.int x0)] [] S Q := by
  refine z_go (Gr := Gr) (zc := zc n w) (K := 168) oV_Mo_rank 2 (pc' := 65) (L' := [some (.int x0)]) (st' := [.int 16, .int x0]) rfl ?_
  exact z_iclt (Gr := Gr) (tgt := 73) (oV_Mo_rank.1 (65, .if_icmp .lt 8) (ip_lk_mem rfl)) (by decide) (fun q => (k0 q)) (fun q => (z_forget (k1 q) trivial))
set_option maxRecDepth 100000 in
theorem b_Mo_rank_73 {l : Launch} {Gr : zG} {n w : Nat} {d : Nat} {S : zS} {Q : Option Value → zS → Prop} {x0 : Int32}  (k0 : zW l Gr (zc n w) 168 M_Mo_rank d 74 [none] [.int x0] S Q) : zW l Gr (zc n w) 168 M_Mo_rank d 73 [some (.int x0)] [] S Q := by
  refine z_go (Gr := Gr) (zc := zc n w) (K := 168) oV_Mo_rank 1 (pc' := 74) (L' := [some (.int x0)]) (st' := [.int x0]) rfl ?_
  exact (z_forget k0 trivial)
set_option maxRecDepth 100000 in
theorem b_Mo_rank_68 {l : Launch} {Gr : zG} {n w : Nat} {d : Nat} {S : zS} {Q : Option Value → zS → Prop}   (k0 : zW l Gr (zc n w) 168 M_Mo_rank d 74 [none] [.int 10] S Q) : zW l Gr (zc n w) 168 M_Mo_rank d 68 [none] [] S Q := by
  refine z_go (Gr := Gr) (zc := zc n w) (K := 168) oV_Mo_rank 2 (pc' := 74) (L' := [none]) (st' := [.int 10]) rfl ?_
  exact k0
theorem e_Mo_rank {l : Launch} {Gr : zG} {n w : Nat} {d : Nat} {S : zS} {R : Int32 → zS → Prop} {x0 : Int32} (k : zW l Gr (zc n w) 168 M_Mo_rank d 0 [some (.int x0)] [] S (fun v S' => ∃ x, v = some (.int x) ∧ R x S')) : zMi l Gr (zc n w) 168 M_Mo_rank d [.int x0] S R := z_mi oM_Mo_rank rfl (Nat.le_of_ble_eq_true rfl) k
set_option maxRecDepth 100000 in
theorem b_Mo_reduce_0 {l : Launch} {Gr : zG} {n w : Nat} {d : Nat} {S : zS} {Q : Option Value → zS → Prop} {x1 : Int32} {x2 : Int32}  (k0 : (S.1 73 20) ≤ x1 → zW l Gr (zc n w) 168 M_Mo_reduce (d + 1) 80 [none, none, none, none] [] S Q) (k1 : ¬ (S.1 73 20) ≤ x1 → zW l Gr (zc n w) 168 M_Mo_reduce (d + 1) 8 [some (.ref 105), some (.int x1), some (.int x2), none] [] S Q) : zW l Gr (zc n w) 168 M_Mo_reduce (d + 1) 0 [some (.ref 105), some (.int x1), some (.int x2), none] [] S Q := by
  refine z_go (Gr := Gr) (zc := zc n w) (K := 168) oV_Mo_reduce 3 (pc' := 5) (L' := [some (.ref 105), some (.int x1), some (.int x2), none]) (st' := [.int x1, .int (S.1 73 20)]) rfl ?_
  exact z_icle (Gr := Gr) (tgt := 80) (oV_Mo_reduce.1 (5, .if_icmp .le 75) (ip_lk_mem rfl)) (by decide) (fun q => (z_forget (k0 q) trivial)) (fun q => (k1 q))
set_option maxRecDepth 100000 in
theorem b_Mo_reduce_80 {l : Launch} {Gr : zG} {n w : Nat} {d : Nat} {S : zS} {Q : Option Value → zS → Prop}   (k0 : Q none S) : zW l Gr (zc n w) 168 M_Mo_reduce (d + 1) 80 [none, none, none, none] [] S Q := by
  exact z_ret (v := none) (oV_Mo_reduce.1 (80, .return_) (ip_lk_mem rfl)) k0
set_option maxRecDepth 100000 in
theorem b_Mo_reduce_8 {l : Launch} {Gr : zG} {n w : Nat} {d : Nat} {S : zS} {Q : Option Value → zS → Prop} {x1 : Int32} {x2 : Int32} (g0 : vp_in ((S.1 73 20) - 1) 4100) (k0 : ¬ (S.1 83 ((((S.1 73 20) - 1) : Int32).toNatClampNeg)) = 1 → zW l Gr (zc n w) 168 M_Mo_reduce (d + 1) 80 [none, none, none, none] [] S Q) (k1 : (S.1 83 ((((S.1 73 20) - 1) : Int32).toNatClampNeg)) = 1 → zW l Gr (zc n w) 168 M_Mo_reduce (d + 1) 23 [some (.ref 105), some (.int x1), some (.int x2), none] [] S Q) : zW l Gr (zc n w) 168 M_Mo_reduce (d + 1) 8 [some (.ref 105), some (.int x1), some (.int x2), none] [] S Q := by
  refine z_go (Gr := Gr) (zc := zc n w) (K := 168) oV_Mo_reduce 6 (pc' := 18) (L' := [some (.ref 105), some (.int x1), some (.int x2), none]) (st' := [.int ((S.1 73 20) - 1), .ref 115]) rfl ?_
  refine z_iald (Gr := Gr) (c := 83) (oV_Mo_reduce.1 (18, .iaload) (ip_lk_mem rfl)) (by decide) rfl g0 ?_
  refine z_go (Gr := Gr) (zc := zc n w) (K := 168) oV_Mo_reduce 1 (pc' := 20) (L' := [some (.ref 105), some (.int x1), some (.int x2), none]) (st' := [.int 1, .int (S.1 83 ((((S.1 73 20) - 1) : Int32).toNatClampNeg))]) rfl ?_
  exact z_icne (Gr := Gr) (tgt := 80) (oV_Mo_reduce.1 (20, .if_icmp .ne 60) (ip_lk_mem rfl)) (by decide) (fun q => (z_forget (k0 q) trivial)) (fun q => (k1 q))
set_option maxRecDepth 100000 in
theorem b_Mo_reduce_23 {l : Launch} {Gr : zG} {n w : Nat} {d : Nat} {S : zS} {Q : Option Value → zS → Prop} {R : Int32 → zS → Prop} (hg : ip_gk (lg_tbl, vwCl, Gr)) {x1 : Int32} {x2 : Int32} (g0 : vp_in ((S.1 73 20) - 1) 4100) (k0 : zMi l Gr (zc n w) 168 M_Mo_rank d [.int (S.1 84 ((((S.1 73 20) - 1) : Int32).toNatClampNeg))] S R) (k1 : ∀ v S', R v S' → zW l Gr (zc n w) 168 M_Mo_reduce (d + 1) 37 [some (.ref 105), some (.int x1), some (.int x2), none] [.int v] S' Q) : zW l Gr (zc n w) 168 M_Mo_reduce (d + 1) 23 [some (.ref 105), some (.int x1), some (.int x2), none] [] S Q := by
  refine z_go (Gr := Gr) (zc := zc n w) (K := 168) oV_Mo_reduce 6 (pc' := 33) (L' := [some (.ref 105), some (.int x1), some (.int x2), none]) (st' := [.int ((S.1 73 20) - 1), .ref 116]) rfl ?_
  refine z_iald (Gr := Gr) (c := 84) (oV_Mo_reduce.1 (33, .iaload) (ip_lk_mem rfl)) (by decide) rfl g0 ?_
  exact z_callS (Gr := Gr) hg.2.2.1 fT oM_Mo_rank (oV_Mo_reduce.1 (34, .invokestatic 420) (ip_lk_mem rfl)) ⟨tt_9 _ (List.mem_of_getElem? (i := 145) rfl) rfl, tt_9 _ (List.mem_of_getElem? (i := 146) rfl) rfl⟩ (As := [.int (S.1 84 ((((S.1 73 20) - 1) : Int32).toNatClampNeg))]) rfl (Nat.le_of_ble_eq_true rfl) k0 (fun v S' q => by obtain ⟨x, rfl, q⟩ := q; exact (k1 _ _ q))
set_option maxRecDepth 100000 in
theorem b_Mo_reduce_37 {l : Launch} {Gr : zG} {n w : Nat} {d : Nat} {S : zS} {Q : Option Value → zS → Prop} {x1 : Int32} {x2 : Int32} {s0 : Int32}  (k0 : s0 < x2 → zW l Gr (zc n w) 168 M_Mo_reduce (d + 1) 80 [none, none, none, none] [] S Q) (k1 : ¬ s0 < x2 → zW l Gr (zc n w) 168 M_Mo_reduce (d + 1) 41 [some (.ref 105), some (.int x1), some (.int x2), none] [] S Q) : zW l Gr (zc n w) 168 M_Mo_reduce (d + 1) 37 [some (.ref 105), some (.int x1), some (.int x2), none] [.int s0] S Q := by
  refine z_go (Gr := Gr) (zc := zc n w) (K := 168) oV_Mo_reduce 1 (pc' := 38) (L' := [some (.ref 105), some (.int x1), some (.int x2), none]) (st' := [.int x2, .int s0]) rfl ?_
  exact z_iclt (Gr := Gr) (tgt := 80) (oV_Mo_reduce.1 (38, .if_icmp .lt 42) (ip_lk_mem rfl)) (by decide) (fun q => (z_forget (k0 q) trivial)) (fun q => (k1 q))
set_option maxRecDepth 100000 in
theorem b_Mo_reduce_41 {l : Launch} {Gr : zG} {n w : Nat} {d : Nat} {S : zS} {Q : Option Value → zS → Prop} {R : Int32 → zS → Prop} (hg : ip_gk (lg_tbl, vwCl, Gr)) {x1 : Int32} {x2 : Int32} (g0 : vp_in ((S.1 73 20) - 1) 4100) (k0 : zMi l Gr (zc n w) 168 M_Mo_put d [.ref 105, .int 13, .int (S.1 84 ((((S.1 73 20) - 1) : Int32).toNatClampNeg)), .int 0, .int (S.1 85 ((((S.1 73 20) - 1) : Int32).toNatClampNeg))] (zi S 73 20 ((S.1 73 20) - 1)) R) (k1 : ∀ v S', R v S' → zW l Gr (zc n w) 168 M_Mo_reduce (d + 1) 76 [some (.ref 105), some (.int x1), some (.int x2), none] [.int v] S' Q) : zW l Gr (zc n w) 168 M_Mo_reduce (d + 1) 41 [some (.ref 105), some (.int x1), some (.int x2), none] [] S Q := by
  refine z_go (Gr := Gr) (zc := zc n w) (K := 168) oV_Mo_reduce 5 (pc' := 48) (L' := [some (.ref 105), some (.int x1), some (.int x2), none]) (st' := [.int ((S.1 73 20) - 1), .ref 105]) rfl ?_
  refine z_putI (Gr := Gr) (c := 73) (oV_Mo_reduce.1 (48, .putfield 417) (ip_lk_mem rfl)) (oV_Mo_reduce.2.1 (417, 12, 20, .int, false) (ip_lk_mem rfl)).1 (by decide) (zo_73 _ _ _ _) (zs_73_20 _ _ _ _ _) (zn_73_20 _ _ _ _) rfl ?_
  refine z_go (Gr := Gr) (zc := zc n w) (K := 168) oV_Mo_reduce 5 (pc' := 59) (L' := [some (.ref 105), some (.int x1), some (.int x2), none]) (st' := [.ref 105, .ref 116, .int 13, .ref 105]) rfl ?_
  refine z_getI (Gr := Gr) (c := 73) (oV_Mo_reduce.1 (59, .getfield 417) (ip_lk_mem rfl)) (oV_Mo_reduce.2.1 (417, 12, 20, .int, false) (ip_lk_mem rfl)).1 (by decide) (zo_73 _ _ _ _) (zg_73_20 _ _ _ _) zi_v ?_
  refine z_iald (Gr := Gr) (c := 84) (oV_Mo_reduce.1 (62, .iaload) (ip_lk_mem rfl)) (by decide) rfl g0 ?_
  refine z_topI (v := (S.1 84 ((((S.1 73 20) - 1) : Int32).toNatClampNeg))) (zi_c (by decide)) ?_
  refine z_go (Gr := Gr) (zc := zc n w) (K := 168) oV_Mo_reduce 4 (pc' := 69) (L' := [some (.ref 105), some (.int x1), some (.int x2), none]) (st' := [.ref 105, .ref 117, .int 0, .int (S.1 84 ((((S.1 73 20) - 1) : Int32).toNatClampNeg)), .int 13, .ref 105]) rfl ?_
  refine z_getI (Gr := Gr) (c := 73) (oV_Mo_reduce.1 (69, .getfield 417) (ip_lk_mem rfl)) (oV_Mo_reduce.2.1 (417, 12, 20, .int, false) (ip_lk_mem rfl)).1 (by decide) (zo_73 _ _ _ _) (zg_73_20 _ _ _ _) zi_v ?_
  refine z_iald (Gr := Gr) (c := 85) (oV_Mo_reduce.1 (72, .iaload) (ip_lk_mem rfl)) (by decide) rfl g0 ?_
  refine z_topI (v := (S.1 85 ((((S.1 73 20) - 1) : Int32).toNatClampNeg))) (zi_c (by decide)) ?_
  exact z_callV (Gr := Gr) hg.2.2.1 fT oM_Mo_put (oV_Mo_reduce.1 (73, .invokevirtual 423) (ip_lk_mem rfl)) ⟨tt_9 _ (List.mem_of_getElem? (i := 61) rfl) rfl, tt_9 _ (List.mem_of_getElem? (i := 63) rfl) rfl, fS_Mo_put⟩ (c := 73) (ci := 12) (As := [.int 13, .int (S.1 84 ((((S.1 73 20) - 1) : Int32).toNatClampNeg)), .int 0, .int (S.1 85 ((((S.1 73 20) - 1) : Int32).toNatClampNeg))]) rfl rfl rfl (by decide) rfl (Nat.le_of_ble_eq_true rfl) k0 (fun v S' q => by obtain ⟨x, rfl, q⟩ := q; exact (k1 _ _ q))
set_option maxRecDepth 100000 in
theorem b_Mo_reduce_76 {l : Launch} {Gr : zG} {n w : Nat} {d : Nat} {S : zS} {Q : Option Value → zS → Prop} {x1 : Int32} {x2 : Int32} {s0 : Int32}  (k0 : zW l Gr (zc n w) 168 M_Mo_reduce (d + 1) 0 [some (.ref 105), some (.int x1), some (.int x2), none] [] S Q) : zW l Gr (zc n w) 168 M_Mo_reduce (d + 1) 76 [some (.ref 105), some (.int x1), some (.int x2), none] [.int s0] S Q := by
  refine z_go (Gr := Gr) (zc := zc n w) (K := 168) oV_Mo_reduce 2 (pc' := 0) (L' := [some (.ref 105), some (.int x1), some (.int x2), some (.int s0)]) (st' := []) rfl ?_
  exact (z_forget k0 (And.intro rfl (And.intro rfl (And.intro rfl trivial))))
theorem e_Mo_reduce {l : Launch} {Gr : zG} {n w : Nat} {d : Nat} {S : zS} {R : zS → Prop} {x1 : Int32} {x2 : Int32} (k : zW l Gr (zc n w) 168 M_Mo_reduce (d + 1) 0 [some (.ref 105), some (.int x1), some (.int x2), none] [] S (fun v S' => v = none ∧ R S')) : zMv l Gr (zc n w) 168 M_Mo_reduce (d + 1) [.ref 105, .int x1, .int x2] S R := z_mv oM_Mo_reduce rfl (Nat.le_of_ble_eq_true rfl) k
set_option maxRecDepth 100000 in
theorem b_Mo_signsOver_0 {l : Launch} {Gr : zG} {n w : Nat} {d : Nat} {S : zS} {Q : Option Value → zS → Prop} {x1 : Int32}  (k0 : (S.1 73 20) ≤ x1 → zW l Gr (zc n w) 168 M_Mo_signsOver (d + 1) 72 [none, none, none] [] S Q) (k1 : ¬ (S.1 73 20) ≤ x1 → zW l Gr (zc n w) 168 M_Mo_signsOver (d + 1) 8 [some (.ref 105), some (.int x1), none] [] S Q) : zW l Gr (zc n w) 168 M_Mo_signsOver (d + 1) 0 [some (.ref 105), some (.int x1), none] [] S Q := by
  refine z_go (Gr := Gr) (zc := zc n w) (K := 168) oV_Mo_signsOver 3 (pc' := 5) (L' := [some (.ref 105), some (.int x1), none]) (st' := [.int x1, .int (S.1 73 20)]) rfl ?_
  exact z_icle (Gr := Gr) (tgt := 72) (oV_Mo_signsOver.1 (5, .if_icmp .le 67) (ip_lk_mem rfl)) (by decide) (fun q => (z_forget (k0 q) trivial)) (fun q => (k1 q))
set_option maxRecDepth 100000 in
theorem b_Mo_signsOver_72 {l : Launch} {Gr : zG} {n w : Nat} {d : Nat} {S : zS} {Q : Option Value → zS → Prop}   (k0 : Q none S) : zW l Gr (zc n w) 168 M_Mo_signsOver (d + 1) 72 [none, none, none] [] S Q := by
  exact z_ret (v := none) (oV_Mo_signsOver.1 (72, .return_) (ip_lk_mem rfl)) k0
set_option maxRecDepth 100000 in
theorem b_Mo_signsOver_8 {l : Launch} {Gr : zG} {n w : Nat} {d : Nat} {S : zS} {Q : Option Value → zS → Prop} {x1 : Int32} (g0 : vp_in ((S.1 73 20) - 1) 4100) (k0 : ¬ (S.1 83 ((((S.1 73 20) - 1) : Int32).toNatClampNeg)) = 2 → zW l Gr (zc n w) 168 M_Mo_signsOver (d + 1) 72 [none, none, none] [] S Q) (k1 : (S.1 83 ((((S.1 73 20) - 1) : Int32).toNatClampNeg)) = 2 → zW l Gr (zc n w) 168 M_Mo_signsOver (d + 1) 23 [some (.ref 105), some (.int x1), none] [] S Q) : zW l Gr (zc n w) 168 M_Mo_signsOver (d + 1) 8 [some (.ref 105), some (.int x1), none] [] S Q := by
  refine z_go (Gr := Gr) (zc := zc n w) (K := 168) oV_Mo_signsOver 6 (pc' := 18) (L' := [some (.ref 105), some (.int x1), none]) (st' := [.int ((S.1 73 20) - 1), .ref 115]) rfl ?_
  refine z_iald (Gr := Gr) (c := 83) (oV_Mo_signsOver.1 (18, .iaload) (ip_lk_mem rfl)) (by decide) rfl g0 ?_
  refine z_go (Gr := Gr) (zc := zc n w) (K := 168) oV_Mo_signsOver 1 (pc' := 20) (L' := [some (.ref 105), some (.int x1), none]) (st' := [.int 2, .int (S.1 83 ((((S.1 73 20) - 1) : Int32).toNatClampNeg))]) rfl ?_
  exact z_icne (Gr := Gr) (tgt := 72) (oV_Mo_signsOver.1 (20, .if_icmp .ne 52) (ip_lk_mem rfl)) (by decide) (fun q => (z_forget (k0 q) trivial)) (fun q => (k1 q))
set_option maxRecDepth 100000 in
theorem b_Mo_signsOver_23 {l : Launch} {Gr : zG} {n w : Nat} {d : Nat} {S : zS} {Q : Option Value → zS → Prop} {R : Int32 → zS → Prop} (hg : ip_gk (lg_tbl, vwCl, Gr)) {x1 : Int32} (g0 : vp_in ((S.1 73 20) - 1) 4100) (k0 : zMi l Gr (zc n w) 168 M_Mo_put d [.ref 105, .int 12, .int (S.1 84 ((((S.1 73 20) - 1) : Int32).toNatClampNeg)), .int 0, .int (S.1 85 ((((S.1 73 20) - 1) : Int32).toNatClampNeg))] (zi (zi S 73 20 ((S.1 73 20) - 1)) 73 19 ((S.1 73 19) - 1)) R) (k1 : ∀ v S', R v S' → zW l Gr (zc n w) 168 M_Mo_signsOver (d + 1) 68 [some (.ref 105), some (.int x1), none] [.int v] S' Q) : zW l Gr (zc n w) 168 M_Mo_signsOver (d + 1) 23 [some (.ref 105), some (.int x1), none] [] S Q := by
  refine z_go (Gr := Gr) (zc := zc n w) (K := 168) oV_Mo_signsOver 5 (pc' := 30) (L' := [some (.ref 105), some (.int x1), none]) (st' := [.int ((S.1 73 20) - 1), .ref 105]) rfl ?_
  refine z_putI (Gr := Gr) (c := 73) (oV_Mo_signsOver.1 (30, .putfield 417) (ip_lk_mem rfl)) (oV_Mo_signsOver.2.1 (417, 12, 20, .int, false) (ip_lk_mem rfl)).1 (by decide) (zo_73 _ _ _ _) (zs_73_20 _ _ _ _ _) (zn_73_20 _ _ _ _) rfl ?_
  refine z_go (Gr := Gr) (zc := zc n w) (K := 168) oV_Mo_signsOver 2 (pc' := 35) (L' := [some (.ref 105), some (.int x1), none]) (st' := [.ref 105, .ref 105]) rfl ?_
  refine z_getI (Gr := Gr) (c := 73) (oV_Mo_signsOver.1 (35, .getfield 414) (ip_lk_mem rfl)) (oV_Mo_signsOver.2.1 (414, 12, 19, .int, false) (ip_lk_mem rfl)).1 (by decide) (zo_73 _ _ _ _) (zg_73_19 _ _ _ _) (zi_k (by decide)) ?_
  refine z_go (Gr := Gr) (zc := zc n w) (K := 168) oV_Mo_signsOver 2 (pc' := 40) (L' := [some (.ref 105), some (.int x1), none]) (st' := [.int ((S.1 73 19) - 1), .ref 105]) rfl ?_
  refine z_putI (Gr := Gr) (c := 73) (oV_Mo_signsOver.1 (40, .putfield 414) (ip_lk_mem rfl)) (oV_Mo_signsOver.2.1 (414, 12, 19, .int, false) (ip_lk_mem rfl)).1 (by decide) (zo_73 _ _ _ _) (zs_73_19 _ _ _ _ _) (zn_73_19 _ _ _ _) rfl ?_
  refine z_go (Gr := Gr) (zc := zc n w) (K := 168) oV_Mo_signsOver 5 (pc' := 51) (L' := [some (.ref 105), some (.int x1), none]) (st' := [.ref 105, .ref 116, .int 12, .ref 105]) rfl ?_
  refine z_getI (Gr := Gr) (c := 73) (oV_Mo_signsOver.1 (51, .getfield 417) (ip_lk_mem rfl)) (oV_Mo_signsOver.2.1 (417, 12, 20, .int, false) (ip_lk_mem rfl)).1 (by decide) (zo_73 _ _ _ _) (zg_73_20 _ _ _ _) (Eq.trans (zi_k (by decide)) zi_v) ?_
  refine z_iald (Gr := Gr) (c := 84) (oV_Mo_signsOver.1 (54, .iaload) (ip_lk_mem rfl)) (by decide) rfl g0 ?_
  refine z_topI (v := (S.1 84 ((((S.1 73 20) - 1) : Int32).toNatClampNeg))) (Eq.trans (zi_c (by decide)) (zi_c (by decide))) ?_
  refine z_go (Gr := Gr) (zc := zc n w) (K := 168) oV_Mo_signsOver 4 (pc' := 61) (L' := [some (.ref 105), some (.int x1), none]) (st' := [.ref 105, .ref 117, .int 0, .int (S.1 84 ((((S.1 73 20) - 1) : Int32).toNatClampNeg)), .int 12, .ref 105]) rfl ?_
  refine z_getI (Gr := Gr) (c := 73) (oV_Mo_signsOver.1 (61, .getfield 417) (ip_lk_mem rfl)) (oV_Mo_signsOver.2.1 (417, 12, 20, .int, false) (ip_lk_mem rfl)).1 (by decide) (zo_73 _ _ _ _) (zg_73_20 _ _ _ _) (Eq.trans (zi_k (by decide)) zi_v) ?_
  refine z_iald (Gr := Gr) (c := 85) (oV_Mo_signsOver.1 (64, .iaload) (ip_lk_mem rfl)) (by decide) rfl g0 ?_
  refine z_topI (v := (S.1 85 ((((S.1 73 20) - 1) : Int32).toNatClampNeg))) (Eq.trans (zi_c (by decide)) (zi_c (by decide))) ?_
  exact z_callV (Gr := Gr) hg.2.2.1 fT oM_Mo_put (oV_Mo_signsOver.1 (65, .invokevirtual 423) (ip_lk_mem rfl)) ⟨tt_9 _ (List.mem_of_getElem? (i := 61) rfl) rfl, tt_9 _ (List.mem_of_getElem? (i := 63) rfl) rfl, fS_Mo_put⟩ (c := 73) (ci := 12) (As := [.int 12, .int (S.1 84 ((((S.1 73 20) - 1) : Int32).toNatClampNeg)), .int 0, .int (S.1 85 ((((S.1 73 20) - 1) : Int32).toNatClampNeg))]) rfl rfl rfl (by decide) rfl (Nat.le_of_ble_eq_true rfl) k0 (fun v S' q => by obtain ⟨x, rfl, q⟩ := q; exact (k1 _ _ q))
set_option maxRecDepth 100000 in
theorem b_Mo_signsOver_68 {l : Launch} {Gr : zG} {n w : Nat} {d : Nat} {S : zS} {Q : Option Value → zS → Prop} {x1 : Int32} {s0 : Int32}  (k0 : zW l Gr (zc n w) 168 M_Mo_signsOver (d + 1) 0 [some (.ref 105), some (.int x1), none] [] S Q) : zW l Gr (zc n w) 168 M_Mo_signsOver (d + 1) 68 [some (.ref 105), some (.int x1), none] [.int s0] S Q := by
  refine z_go (Gr := Gr) (zc := zc n w) (K := 168) oV_Mo_signsOver 2 (pc' := 0) (L' := [some (.ref 105), some (.int x1), some (.int s0)]) (st' := []) rfl ?_
  exact (z_forget k0 (And.intro rfl (And.intro rfl trivial)))
theorem e_Mo_signsOver {l : Launch} {Gr : zG} {n w : Nat} {d : Nat} {S : zS} {R : zS → Prop} {x1 : Int32} (k : zW l Gr (zc n w) 168 M_Mo_signsOver (d + 1) 0 [some (.ref 105), some (.int x1), none] [] S (fun v S' => v = none ∧ R S')) : zMv l Gr (zc n w) 168 M_Mo_signsOver (d + 1) [.ref 105, .int x1] S R := z_mv oM_Mo_signsOver rfl (Nat.le_of_ble_eq_true rfl) k
