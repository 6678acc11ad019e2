set_option maxRecDepth 100000 in
theorem b_Mo_word_0 {l : Launch} {Gr : zG} {n w : Nat} {d : Nat} {S : zS} {Q : Option Value → zS → Prop} {x1 : Int32} {x2 : Int32}  (k0 : zW l Gr (zc n w) 168 M_Mo_word d 2 [some (.ref 105), some (.int x1), some (.int x2), some (.int 0)] [] S Q) : zW l Gr (zc n w) 168 M_Mo_word d 0 [some (.ref 105), some (.int x1), some (.int x2), none] [] S Q := by
  refine z_go (Gr := Gr) (zc := zc n w) (K := 168) oV_Mo_word 2 (pc' := 2) (L' := [some (.ref 105), some (.int x1), some (.int x2), some (.int 0)]) (st' := []) rfl ?_
  exact k0
set_option maxRecDepth 100000 in
theorem b_Mo_word_2 {l : Launch} {Gr : zG} {n w : Nat} {d : Nat} {S : zS} {Q : Option Value → zS → Prop} {x1 : Int32} {x2 : Int32} {x3 : Int32}  (k0 : 4 ≤ x3 → zW l Gr (zc n w) 168 M_Mo_word d 34 [none, none, none, none] [] S Q) (k1 : ¬ 4 ≤ x3 → zW l Gr (zc n w) 168 M_Mo_word d 7 [some (.ref 105), some (.int x1), some (.int x2), some (.int x3)] [] S Q) : zW l Gr (zc n w) 168 M_Mo_word d 2 [some (.ref 105), some (.int x1), some (.int x2), some (.int x3)] [] S Q := by
  refine z_go (Gr := Gr) (zc := zc n w) (K := 168) oV_Mo_word 2 (pc' := 4) (L' := [some (.ref 105), some (.int x1), some (.int x2), some (.int x3)]) (st' := [.int 4, .int x3]) rfl ?_
  exact z_icge (Gr := Gr) (tgt := 34) (oV_Mo_word.1 (4, .if_icmp .ge 30) (ip_lk_mem rfl)) (by decide) (fun q => (z_forget (k0 q) trivial)) (fun q => (k1 q))
set_option maxRecDepth 100000 in
theorem b_Mo_word_34 {l : Launch} {Gr : zG} {n w : Nat} {d : Nat} {S : zS} {Q : Option Value → zS → Prop}   (k0 : Q none S) : zW l Gr (zc n w) 168 M_Mo_word d 34 [none, none, none, none] [] S Q := by
  exact z_ret (v := none) (oV_Mo_word.1 (34, .return_) (ip_lk_mem rfl)) k0
set_option maxRecDepth 100000 in
theorem b_Mo_word_7 {l : Launch} {Gr : zG} {n w : Nat} {d : Nat} {S : zS} {Q : Option Value → zS → Prop} {x1 : Int32} {x2 : Int32} {x3 : Int32} (g0 : vp_in (x1 + x3) 20) (k0 : zW l Gr (zc n w) 168 M_Mo_word d 2 [some (.ref 105), some (.int x1), some (.int x2), some (.int (x3 + Int32.ofInt 1))] [] (zi S 74 (((x1 + x3) : Int32).toNatClampNeg) ((x2 >>> ((24 - (8 * x3)) &&& 31)) &&& 255)) Q) : zW l Gr (zc n w) 168 M_Mo_word d 7 [some (.ref 105), some (.int x1), some (.int x2), some (.int x3)] [] S Q := by
  refine z_go (Gr := Gr) (zc := zc n w) (K := 168) oV_Mo_word 14 (pc' := 27) (L' := [some (.ref 105), some (.int x1), some (.int x2), some (.int x3)]) (st' := [.int ((x2 >>> ((24 - (8 * x3)) &&& 31)) &&& 255), .int (x1 + x3), .ref 106]) rfl ?_
  refine z_iast (Gr := Gr) (c := 74) (oV_Mo_word.1 (27, .iastore) (ip_lk_mem rfl)) (by decide) (fun _ => rfl) g0 ?_
  refine z_go (Gr := Gr) (zc := zc n w) (K := 168) oV_Mo_word 2 (pc' := 2) (L' := [some (.ref 105), some (.int x1), some (.int x2), some (.int (x3 + Int32.ofInt 1))]) (st' := []) rfl ?_
  exact k0
theorem e_Mo_word {l : Launch} {Gr : zG} {n w : Nat} {d : Nat} {S : zS} {R : zS → Prop} {x1 : Int32} {x2 : Int32} (k : zW l Gr (zc n w) 168 M_Mo_word d 0 [some (.ref 105), some (.int x1), some (.int x2), none] [] S (fun v S' => v = none ∧ R S')) : zMv l Gr (zc n w) 168 M_Mo_word d [.ref 105, .int x1, .int x2] S R := z_mv oM_Mo_word rfl (Nat.le_of_ble_eq_true rfl) k
set_option maxRecDepth 100000 in
theorem b_Mo_feed_0 {l : Launch} {Gr : zG} {n w : Nat} {d : Nat} {S : zS} {Q : Option Value → zS → Prop} {R : zS → Prop} (hg : ip_gk (lg_tbl, vwCl, Gr)) {x1 : Int32} {x2 : Int32} {x3 : Int32} {x4 : Int32} {x5 : Int32}  (k0 : zMv l Gr (zc n w) 168 M_Mo_word d [.ref 105, .int 0, .int x1] S R) (k1 : ∀ S', R S' → zW l Gr (zc n w) 168 M_Mo_feed (d + 1) 6 [some (.ref 105), none, some (.int x2), some (.int x3), some (.int x4), some (.int x5)] [] S' Q) : zW l Gr (zc n w) 168 M_Mo_feed (d + 1) 0 [some (.ref 105), some (.int x1), some (.int x2), some (.int x3), some (.int x4), some (.int x5)] [] S Q := by
  refine z_go (Gr := Gr) (zc := zc n w) (K := 168) oV_Mo_feed 3 (pc' := 3) (L' := [some (.ref 105), some (.int x1), some (.int x2), some (.int x3), some (.int x4), some (.int x5)]) (st' := [.int x1, .int 0, .ref 105]) rfl ?_
  exact z_callV (Gr := Gr) hg.2.2.1 fT oM_Mo_word (oV_Mo_feed.1 (3, .invokevirtual 316) (ip_lk_mem rfl)) ⟨tt_9 _ (List.mem_of_getElem? (i := 17) rfl) rfl, tt_9 _ (List.mem_of_getElem? (i := 19) rfl) rfl, fS_Mo_word⟩ (c := 73) (ci := 12) (As := [.int 0, .int x1]) rfl rfl rfl (by decide) rfl (Nat.le_of_ble_eq_true rfl) k0 (fun v S' q => by obtain ⟨rfl, q⟩ := q; exact (z_forget (k1 _ q) (And.intro rfl (And.intro rfl (And.intro rfl (And.intro rfl (And.intro rfl trivial)))))))
set_option maxRecDepth 100000 in
theorem b_Mo_feed_6 {l : Launch} {Gr : zG} {n w : Nat} {d : Nat} {S : zS} {Q : Option Value → zS → Prop} {R : zS → Prop} (hg : ip_gk (lg_tbl, vwCl, Gr)) {x2 : Int32} {x3 : Int32} {x4 : Int32} {x5 : Int32}  (k0 : zMv l Gr (zc n w) 168 M_Mo_word d [.ref 105, .int 4, .int x2] S R) (k1 : ∀ S', R S' → zW l Gr (zc n w) 168 M_Mo_feed (d + 1) 12 [some (.ref 105), none, none, some (.int x3), some (.int x4), some (.int x5)] [] S' Q) : zW l Gr (zc n w) 168 M_Mo_feed (d + 1) 6 [some (.ref 105), none, some (.int x2), some (.int x3), some (.int x4), some (.int x5)] [] S Q := by
  refine z_go (Gr := Gr) (zc := zc n w) (K := 168) oV_Mo_feed 3 (pc' := 9) (L' := [some (.ref 105), none, some (.int x2), some (.int x3), some (.int x4), some (.int x5)]) (st' := [.int x2, .int 4, .ref 105]) rfl ?_
  exact z_callV (Gr := Gr) hg.2.2.1 fT oM_Mo_word (oV_Mo_feed.1 (9, .invokevirtual 316) (ip_lk_mem rfl)) ⟨tt_9 _ (List.mem_of_getElem? (i := 17) rfl) rfl, tt_9 _ (List.mem_of_getElem? (i := 19) rfl) rfl, fS_Mo_word⟩ (c := 73) (ci := 12) (As := [.int 4, .int x2]) rfl rfl rfl (by decide) rfl (Nat.le_of_ble_eq_true rfl) k0 (fun v S' q => by obtain ⟨rfl, q⟩ := q; exact (z_forget (k1 _ q) (And.intro rfl (And.intro rfl (And.intro rfl (And.intro rfl trivial))))))
set_option maxRecDepth 100000 in
theorem b_Mo_feed_12 {l : Launch} {Gr : zG} {n w : Nat} {d : Nat} {S : zS} {Q : Option Value → zS → Prop} {R : zS → Prop} (hg : ip_gk (lg_tbl, vwCl, Gr)) {x3 : Int32} {x4 : Int32} {x5 : Int32}  (k0 : zMv l Gr (zc n w) 168 M_Mo_word d [.ref 105, .int 8, .int x3] S R) (k1 : ∀ S', R S' → zW l Gr (zc n w) 168 M_Mo_feed (d + 1) 19 [some (.ref 105), none, none, none, some (.int x4), some (.int x5)] [] S' Q) : zW l Gr (zc n w) 168 M_Mo_feed (d + 1) 12 [some (.ref 105), none, none, some (.int x3), some (.int x4), some (.int x5)] [] S Q := by
  refine z_go (Gr := Gr) (zc := zc n w) (K := 168) oV_Mo_feed 3 (pc' := 16) (L' := [some (.ref 105), none, none, some (.int x3), some (.int x4), some (.int x5)]) (st' := [.int x3, .int 8, .ref 105]) rfl ?_
  exact z_callV (Gr := Gr) hg.2.2.1 fT oM_Mo_word (oV_Mo_feed.1 (16, .invokevirtual 316) (ip_lk_mem rfl)) ⟨tt_9 _ (List.mem_of_getElem? (i := 17) rfl) rfl, tt_9 _ (List.mem_of_getElem? (i := 19) rfl) rfl, fS_Mo_word⟩ (c := 73) (ci := 12) (As := [.int 8, .int x3]) rfl rfl rfl (by decide) rfl (Nat.le_of_ble_eq_true rfl) k0 (fun v S' q => by obtain ⟨rfl, q⟩ := q; exact (z_forget (k1 _ q) (And.intro rfl (And.intro rfl (And.intro rfl trivial)))))
set_option maxRecDepth 100000 in
theorem b_Mo_feed_19 {l : Launch} {Gr : zG} {n w : Nat} {d : Nat} {S : zS} {Q : Option Value → zS → Prop} {R : zS → Prop} (hg : ip_gk (lg_tbl, vwCl, Gr)) {x4 : Int32} {x5 : Int32}  (k0 : zMv l Gr (zc n w) 168 M_Mo_word d [.ref 105, .int 12, .int x4] S R) (k1 : ∀ S', R S' → zW l Gr (zc n w) 168 M_Mo_feed (d + 1) 27 [some (.ref 105), none, none, none, none, some (.int x5)] [] S' Q) : zW l Gr (zc n w) 168 M_Mo_feed (d + 1) 19 [some (.ref 105), none, none, none, some (.int x4), some (.int x5)] [] S Q := by
  refine z_go (Gr := Gr) (zc := zc n w) (K := 168) oV_Mo_feed 3 (pc' := 24) (L' := [some (.ref 105), none, none, none, some (.int x4), some (.int x5)]) (st' := [.int x4, .int 12, .ref 105]) rfl ?_
  exact z_callV (Gr := Gr) hg.2.2.1 fT oM_Mo_word (oV_Mo_feed.1 (24, .invokevirtual 316) (ip_lk_mem rfl)) ⟨tt_9 _ (List.mem_of_getElem? (i := 17) rfl) rfl, tt_9 _ (List.mem_of_getElem? (i := 19) rfl) rfl, fS_Mo_word⟩ (c := 73) (ci := 12) (As := [.int 12, .int x4]) rfl rfl rfl (by decide) rfl (Nat.le_of_ble_eq_true rfl) k0 (fun v S' q => by obtain ⟨rfl, q⟩ := q; exact (z_forget (k1 _ q) (And.intro rfl (And.intro rfl trivial))))
set_option maxRecDepth 100000 in
theorem b_Mo_feed_27 {l : Launch} {Gr : zG} {n w : Nat} {d : Nat} {S : zS} {Q : Option Value → zS → Prop} {R : zS → Prop} (hg : ip_gk (lg_tbl, vwCl, Gr)) {x5 : Int32}  (k0 : zMv l Gr (zc n w) 168 M_Mo_word d [.ref 105, .int 16, .int x5] S R) (k1 : ∀ S', R S' → zW l Gr (zc n w) 168 M_Mo_feed (d + 1) 35 [none, none, none, none, none, none] [] S' Q) : zW l Gr (zc n w) 168 M_Mo_feed (d + 1) 27 [some (.ref 105), none, none, none, none, some (.int x5)] [] S Q := by
  refine z_go (Gr := Gr) (zc := zc n w) (K := 168) oV_Mo_feed 3 (pc' := 32) (L' := [some (.ref 105), none, none, none, none, some (.int x5)]) (st' := [.int x5, .int 16, .ref 105]) rfl ?_
  exact z_callV (Gr := Gr) hg.2.2.1 fT oM_Mo_word (oV_Mo_feed.1 (32, .invokevirtual 316) (ip_lk_mem rfl)) ⟨tt_9 _ (List.mem_of_getElem? (i := 17) rfl) rfl, tt_9 _ (List.mem_of_getElem? (i := 19) rfl) rfl, fS_Mo_word⟩ (c := 73) (ci := 12) (As := [.int 16, .int x5]) rfl rfl rfl (by decide) rfl (Nat.le_of_ble_eq_true rfl) k0 (fun v S' q => by obtain ⟨rfl, q⟩ := q; exact (z_forget (k1 _ q) trivial))
set_option maxRecDepth 100000 in
theorem b_Mo_feed_35 {l : Launch} {Gr : zG} {n w : Nat} {d : Nat} {S : zS} {Q : Option Value → zS → Prop}   (k0 : Q none S) : zW l Gr (zc n w) 168 M_Mo_feed (d + 1) 35 [none, none, none, none, none, none] [] S Q := by
  exact z_ret (v := none) (oV_Mo_feed.1 (35, .return_) (ip_lk_mem rfl)) k0
theorem e_Mo_feed {l : Launch} {Gr : zG} {n w : Nat} {d : Nat} {S : zS} {R : zS → Prop} {x1 : Int32} {x2 : Int32} {x3 : Int32} {x4 : Int32} {x5 : Int32} (k : zW l Gr (zc n w) 168 M_Mo_feed (d + 1) 0 [some (.ref 105), some (.int x1), some (.int x2), some (.int x3), some (.int x4), some (.int x5)] [] S (fun v S' => v = none ∧ R S')) : zMv l Gr (zc n w) 168 M_Mo_feed (d + 1) [.ref 105, .int x1, .int x2, .int x3, .int x4, .int x5] S R := z_mv oM_Mo_feed rfl (Nat.le_of_ble_eq_true rfl) k
set_option maxRecDepth 100000 in
theorem b_Mo_end_0 {l : Launch} {Gr : zG} {n w : Nat} {d : Nat} {S : zS} {Q : Option Value → zS → Prop} {x1 : Int32}  (k0 : x1 < 0 → zW l Gr (zc n w) 168 M_Mo_end d 22 [none, none, none] [] S Q) (k1 : ¬ x1 < 0 → zW l Gr (zc n w) 168 M_Mo_end d 4 [some (.ref 105), some (.int x1), none] [] S Q) : zW l Gr (zc n w) 168 M_Mo_end d 0 [some (.ref 105), some (.int x1), none] [] S Q := by
  refine z_go (Gr := Gr) (zc := zc n w) (K := 168) oV_Mo_end 1 (pc' := 1) (L' := [some (.ref 105), some (.int x1), none]) (st' := [.int x1]) rfl ?_
  exact z_iflt (Gr := Gr) (tgt := 22) (oV_Mo_end.1 (1, .ifCond .lt 21) (ip_lk_mem rfl)) (by decide) (fun q => (z_forget (k0 q) trivial)) (fun q => (k1 q))
set_option maxRecDepth 100000 in
theorem b_Mo_end_22 {l : Launch} {Gr : zG} {n w : Nat} {d : Nat} {S : zS} {Q : Option Value → zS → Prop}   (k0 : Q (some (.int (-1))) S) : zW l Gr (zc n w) 168 M_Mo_end d 22 [none, none, none] [] S Q := by
  refine z_go (Gr := Gr) (zc := zc n w) (K := 168) oV_Mo_end 1 (pc' := 23) (L' := [none, none, none]) (st' := [.int (-1)]) rfl ?_
  exact z_ret (v := (some (.int (-1)))) (oV_Mo_end.1 (23, .ireturn) (ip_lk_mem rfl)) k0
set_option maxRecDepth 100000 in
theorem b_Mo_end_4 {l : Launch} {Gr : zG} {n w : Nat} {d : Nat} {S : zS} {Q : Option Value → zS → Prop} {x1 : Int32}  (k0 : 20 < x1 → zW l Gr (zc n w) 168 M_Mo_end d 22 [none, none, none] [] S Q) (k1 : ¬ 20 < x1 → zW l Gr (zc n w) 168 M_Mo_end d 10 [some (.ref 105), some (.int x1), none] [] S Q) : zW l Gr (zc n w) 168 M_Mo_end d 4 [some (.ref 105), some (.int x1), none] [] S Q := by
  refine z_go (Gr := Gr) (zc := zc n w) (K := 168) oV_Mo_end 2 (pc' := 7) (L' := [some (.ref 105), some (.int x1), none]) (st' := [.int 20, .int x1]) rfl ?_
  exact z_icgt (Gr := Gr) (tgt := 22) (oV_Mo_end.1 (7, .if_icmp .gt 15) (ip_lk_mem rfl)) (by decide) (fun q => (z_forget (k0 q) trivial)) (fun q => (k1 q))
set_option maxRecDepth 100000 in
theorem b_Mo_end_10 {l : Launch} {Gr : zG} {n w : Nat} {d : Nat} {S : zS} {Q : Option Value → zS → Prop} {x1 : Int32}  (k0 : ((S.1 73 5) + x1) ≤ 4000 → zW l Gr (zc n w) 168 M_Mo_end d 24 [some (.ref 105), some (.int x1), none] [] S Q) (k1 : ¬ ((S.1 73 5) + x1) ≤ 4000 → zW l Gr (zc n w) 168 M_Mo_end d 22 [none, none, none] [] S Q) : zW l Gr (zc n w) 168 M_Mo_end d 10 [some (.ref 105), some (.int x1), none] [] S Q := by
  refine z_go (Gr := Gr) (zc := zc n w) (K := 168) oV_Mo_end 5 (pc' := 19) (L' := [some (.ref 105), some (.int x1), none]) (st' := [.int 4000, .int ((S.1 73 5) + x1)]) rfl ?_
  exact z_icle (Gr := Gr) (tgt := 24) (oV_Mo_end.1 (19, .if_icmp .le 5) (ip_lk_mem rfl)) (by decide) (fun q => (k0 q)) (fun q => (z_forget (k1 q) trivial))
set_option maxRecDepth 100000 in
theorem b_Mo_end_24 {l : Launch} {Gr : zG} {n w : Nat} {d : Nat} {S : zS} {Q : Option Value → zS → Prop} {x1 : Int32}  (k0 : zW l Gr (zc n w) 168 M_Mo_end d 26 [some (.ref 105), some (.int x1), some (.int 0)] [] S Q) : zW l Gr (zc n w) 168 M_Mo_end d 24 [some (.ref 105), some (.int x1), none] [] S Q := by
  refine z_go (Gr := Gr) (zc := zc n w) (K := 168) oV_Mo_end 2 (pc' := 26) (L' := [some (.ref 105), some (.int x1), some (.int 0)]) (st' := []) rfl ?_
  exact k0
set_option maxRecDepth 100000 in
theorem b_Mo_end_26 {l : Launch} {Gr : zG} {n w : Nat} {d : Nat} {S : zS} {Q : Option Value → zS → Prop} {x1 : Int32} {x2 : Int32}  (k0 : x1 ≤ x2 → zW l Gr (zc n w) 168 M_Mo_end d 83 [some (.ref 105), some (.int x1), none] [] S Q) (k1 : ¬ x1 ≤ x2 → zW l Gr (zc n w) 168 M_Mo_end d 31 [some (.ref 105), some (.int x1), some (.int x2)] [] S Q) : zW l Gr (zc n w) 168 M_Mo_end d 26 [some (.ref 105), some (.int x1), some (.int x2)] [] S Q := by
  refine z_go (Gr := Gr) (zc := zc n w) (K := 168) oV_Mo_end 2 (pc' := 28) (L' := [some (.ref 105), some (.int x1), some (.int x2)]) (st' := [.int x1, .int x2]) rfl ?_
  exact z_icge (Gr := Gr) (tgt := 83) (oV_Mo_end.1 (28, .if_icmp .ge 55) (ip_lk_mem rfl)) (by decide) (fun q => (z_forget (k0 q) (And.intro rfl (And.intro rfl trivial)))) (fun q => (k1 q))
set_option maxRecDepth 100000 in
theorem b_Mo_end_83 {l : Launch} {Gr : zG} {n w : Nat} {d : Nat} {S : zS} {Q : Option Value → zS → Prop} {x1 : Int32}  (k0 : zW l Gr (zc n w) 168 M_Mo_end d 85 [some (.ref 105), some (.int x1), some (.int 0)] [] S Q) : zW l Gr (zc n w) 168 M_Mo_end d 83 [some (.ref 105), some (.int x1), none] [] S Q := by
  refine z_go (Gr := Gr) (zc := zc n w) (K := 168) oV_Mo_end 2 (pc' := 85) (L' := [some (.ref 105), some (.int x1), some (.int 0)]) (st' := []) rfl ?_
  exact k0
set_option maxRecDepth 100000 in
theorem b_Mo_end_31 {l : Launch} {Gr : zG} {n w : Nat} {d : Nat} {S : zS} {Q : Option Value → zS → Prop} {x1 : Int32} {x2 : Int32} (g0 : vp_in x2 20) (k0 : (S.1 74 ((x2 : Int32).toNatClampNeg)) = 9 → zW l Gr (zc n w) 168 M_Mo_end d 77 [some (.ref 105), some (.int x1), some (.int x2)] [] S Q) (k1 : ¬ (S.1 74 ((x2 : Int32).toNatClampNeg)) = 9 → zW l Gr (zc n w) 168 M_Mo_end d 42 [some (.ref 105), some (.int x1), some (.int x2)] [] S Q) : zW l Gr (zc n w) 168 M_Mo_end d 31 [some (.ref 105), some (.int x1), some (.int x2)] [] S Q := by
  refine z_go (Gr := Gr) (zc := zc n w) (K := 168) oV_Mo_end 3 (pc' := 36) (L' := [some (.ref 105), some (.int x1), some (.int x2)]) (st' := [.int x2, .ref 106]) rfl ?_
  refine z_iald (Gr := Gr) (c := 74) (oV_Mo_end.1 (36, .iaload) (ip_lk_mem rfl)) (by decide) rfl g0 ?_
  refine z_go (Gr := Gr) (zc := zc n w) (K := 168) oV_Mo_end 1 (pc' := 39) (L' := [some (.ref 105), some (.int x1), some (.int x2)]) (st' := [.int 9, .int (S.1 74 ((x2 : Int32).toNatClampNeg))]) rfl ?_
  exact z_iceq (Gr := Gr) (tgt := 77) (oV_Mo_end.1 (39, .if_icmp .eq 38) (ip_lk_mem rfl)) (by decide) (fun q => (k0 q)) (fun q => (k1 q))
set_option maxRecDepth 100000 in
theorem b_Mo_end_85 {l : Launch} {Gr : zG} {n w : Nat} {d : Nat} {S : zS} {Q : Option Value → zS → Prop} {x1 : Int32} {x2 : Int32}  (k0 : x1 ≤ x2 → zW l Gr (zc n w) 168 M_Mo_end d 113 [some (.ref 105), some (.int x1), none] [] S Q) (k1 : ¬ x1 ≤ x2 → zW l Gr (zc n w) 168 M_Mo_end d 90 [some (.ref 105), some (.int x1), some (.int x2)] [] S Q) : zW l Gr (zc n w) 168 M_Mo_end d 85 [some (.ref 105), some (.int x1), some (.int x2)] [] S Q := by
  refine z_go (Gr := Gr) (zc := zc n w) (K := 168) oV_Mo_end 2 (pc' := 87) (L' := [some (.ref 105), some (.int x1), some (.int x2)]) (st' := [.int x1, .int x2]) rfl ?_
  exact z_icge (Gr := Gr) (tgt := 113) (oV_Mo_end.1 (87, .if_icmp .ge 26) (ip_lk_mem rfl)) (by decide) (fun q => (z_forget (k0 q) (And.intro rfl (And.intro rfl trivial)))) (fun q => (k1 q))
set_option maxRecDepth 100000 in
theorem b_Mo_end_77 {l : Launch} {Gr : zG} {n w : Nat} {d : Nat} {S : zS} {Q : Option Value → zS → Prop} {x1 : Int32} {x2 : Int32}  (k0 : zW l Gr (zc n w) 168 M_Mo_end d 26 [some (.ref 105), some (.int x1), some (.int (x2 + Int32.ofInt 1))] [] S Q) : zW l Gr (zc n w) 168 M_Mo_end d 77 [some (.ref 105), some (.int x1), some (.int x2)] [] S Q := by
  refine z_go (Gr := Gr) (zc := zc n w) (K := 168) oV_Mo_end 2 (pc' := 26) (L' := [some (.ref 105), some (.int x1), some (.int (x2 + Int32.ofInt 1))]) (st' := []) rfl ?_
  exact k0
set_option maxRecDepth 100000 in
theorem b_Mo_end_42 {l : Launch} {Gr : zG} {n w : Nat} {d : Nat} {S : zS} {Q : Option Value → zS → Prop} {x1 : Int32} {x2 : Int32} (g0 : vp_in x2 20) (k0 : (S.1 74 ((x2 : Int32).toNatClampNeg)) = 10 → zW l Gr (zc n w) 168 M_Mo_end d 77 [some (.ref 105), some (.int x1), some (.int x2)] [] S Q) (k1 : ¬ (S.1 74 ((x2 : Int32).toNatClampNeg)) = 10 → zW l Gr (zc n w) 168 M_Mo_end d 53 [some (.ref 105), some (.int x1), some (.int x2)] [] S Q) : zW l Gr (zc n w) 168 M_Mo_end d 42 [some (.ref 105), some (.int x1), some (.int x2)] [] S Q := by
  refine z_go (Gr := Gr) (zc := zc n w) (K := 168) oV_Mo_end 3 (pc' := 47) (L' := [some (.ref 105), some (.int x1), some (.int x2)]) (st' := [.int x2, .ref 106]) rfl ?_
  refine z_iald (Gr := Gr) (c := 74) (oV_Mo_end.1 (47, .iaload) (ip_lk_mem rfl)) (by decide) rfl g0 ?_
  refine z_go (Gr := Gr) (zc := zc n w) (K := 168) oV_Mo_end 1 (pc' := 50) (L' := [some (.ref 105), some (.int x1), some (.int x2)]) (st' := [.int 10, .int (S.1 74 ((x2 : Int32).toNatClampNeg))]) rfl ?_
  exact z_iceq (Gr := Gr) (tgt := 77) (oV_Mo_end.1 (50, .if_icmp .eq 27) (ip_lk_mem rfl)) (by decide) (fun q => (k0 q)) (fun q => (k1 q))
set_option maxRecDepth 100000 in
theorem b_Mo_end_113 {l : Launch} {Gr : zG} {n w : Nat} {d : Nat} {S : zS} {Q : Option Value → zS → Prop} {x1 : Int32}  (k0 : zW l Gr (zc n w) 168 M_Mo_end d 125 [some (.ref 105), none, some (.int 0)] [] (zi S 73 5 ((S.1 73 5) + x1)) Q) : zW l Gr (zc n w) 168 M_Mo_end d 113 [some (.ref 105), some (.int x1), none] [] S Q := by
  refine z_go (Gr := Gr) (zc := zc n w) (K := 168) oV_Mo_end 5 (pc' := 120) (L' := [some (.ref 105), some (.int x1), none]) (st' := [.int ((S.1 73 5) + x1), .ref 105]) rfl ?_
  refine z_putI (Gr := Gr) (c := 73) (oV_Mo_end.1 (120, .putfield 320) (ip_lk_mem rfl)) (oV_Mo_end.2.1 (320, 12, 5, .int, false) (ip_lk_mem rfl)).1 (by decide) (zo_73 _ _ _ _) (zs_73_5 _ _ _ _ _) (zn_73_5 _ _ _ _) rfl ?_
  refine z_go (Gr := Gr) (zc := zc n w) (K := 168) oV_Mo_end 2 (pc' := 125) (L' := [some (.ref 105), some (.int x1), some (.int 0)]) (st' := []) rfl ?_
  exact (z_forget k0 (And.intro rfl (And.intro rfl trivial)))
set_option maxRecDepth 100000 in
theorem b_Mo_end_90 {l : Launch} {Gr : zG} {n w : Nat} {d : Nat} {S : zS} {Q : Option Value → zS → Prop} {x1 : Int32} {x2 : Int32} (g0 : vp_in x2 20) (g1 : vp_in ((S.1 73 5) + x2) 4000) (k0 : zW l Gr (zc n w) 168 M_Mo_end d 85 [some (.ref 105), some (.int x1), some (.int (x2 + Int32.ofInt 1))] [] (zi S 75 ((((S.1 73 5) + x2) : Int32).toNatClampNeg) (S.1 74 ((x2 : Int32).toNatClampNeg))) Q) : zW l Gr (zc n w) 168 M_Mo_end d 90 [some (.ref 105), some (.int x1), some (.int x2)] [] S Q := by
  refine z_go (Gr := Gr) (zc := zc n w) (K := 168) oV_Mo_end 9 (pc' := 105) (L' := [some (.ref 105), some (.int x1), some (.int x2)]) (st' := [.int x2, .ref 106, .int ((S.1 73 5) + x2), .ref 107]) rfl ?_
  refine z_iald (Gr := Gr) (c := 74) (oV_Mo_end.1 (105, .iaload) (ip_lk_mem rfl)) (by decide) rfl g0 ?_
  refine z_iast (Gr := Gr) (c := 75) (oV_Mo_end.1 (106, .iastore) (ip_lk_mem rfl)) (by decide) (fun _ => rfl) g1 ?_
  refine z_go (Gr := Gr) (zc := zc n w) (K := 168) oV_Mo_end 2 (pc' := 85) (L' := [some (.ref 105), some (.int x1), some (.int (x2 + Int32.ofInt 1))]) (st' := []) rfl ?_
  exact k0
set_option maxRecDepth 100000 in
theorem b_Mo_end_53 {l : Launch} {Gr : zG} {n w : Nat} {d : Nat} {S : zS} {Q : Option Value → zS → Prop} {x1 : Int32} {x2 : Int32} (g0 : vp_in x2 20) (k0 : (S.1 74 ((x2 : Int32).toNatClampNeg)) < 32 → zW l Gr (zc n w) 168 M_Mo_end d 75 [none, none, none] [] S Q) (k1 : ¬ (S.1 74 ((x2 : Int32).toNatClampNeg)) < 32 → zW l Gr (zc n w) 168 M_Mo_end d 64 [some (.ref 105), some (.int x1), some (.int x2)] [] S Q) : zW l Gr (zc n w) 168 M_Mo_end d 53 [some (.ref 105), some (.int x1), some (.int x2)] [] S Q := by
  refine z_go (Gr := Gr) (zc := zc n w) (K := 168) oV_Mo_end 3 (pc' := 58) (L' := [some (.ref 105), some (.int x1), some (.int x2)]) (st' := [.int x2, .ref 106]) rfl ?_
  refine z_iald (Gr := Gr) (c := 74) (oV_Mo_end.1 (58, .iaload) (ip_lk_mem rfl)) (by decide) rfl g0 ?_
  refine z_go (Gr := Gr) (zc := zc n w) (K := 168) oV_Mo_end 1 (pc' := 61) (L' := [some (.ref 105), some (.int x1), some (.int x2)]) (st' := [.int 32, .int (S.1 74 ((x2 : Int32).toNatClampNeg))]) rfl ?_
  exact z_iclt (Gr := Gr) (tgt := 75) (oV_Mo_end.1 (61, .if_icmp .lt 14) (ip_lk_mem rfl)) (by decide) (fun q => (z_forget (k0 q) trivial)) (fun q => (k1 q))
set_option maxRecDepth 100000 in
theorem b_Mo_end_125 {l : Launch} {Gr : zG} {n w : Nat} {d : Nat} {S : zS} {Q : Option Value → zS → Prop} {x2 : Int32}  (k0 : 20 ≤ x2 → zW l Gr (zc n w) 168 M_Mo_end d 144 [some (.ref 105), none, none] [] S Q) (k1 : ¬ 20 ≤ x2 → zW l Gr (zc n w) 168 M_Mo_end d 131 [some (.ref 105), none, some (.int x2)] [] S Q) : zW l Gr (zc n w) 168 M_Mo_end d 125 [some (.ref 105), none, some (.int x2)] [] S Q := by
  refine z_go (Gr := Gr) (zc := zc n w) (K := 168) oV_Mo_end 2 (pc' := 128) (L' := [some (.ref 105), none, some (.int x2)]) (st' := [.int 20, .int x2]) rfl ?_
  exact z_icge (Gr := Gr) (tgt := 144) (oV_Mo_end.1 (128, .if_icmp .ge 16) (ip_lk_mem rfl)) (by decide) (fun q => (z_forget (k0 q) (And.intro rfl trivial))) (fun q => (k1 q))
set_option maxRecDepth 100000 in
theorem b_Mo_end_75 {l : Launch} {Gr : zG} {n w : Nat} {d : Nat} {S : zS} {Q : Option Value → zS → Prop}   (k0 : Q (some (.int (-1))) S) : zW l Gr (zc n w) 168 M_Mo_end d 75 [none, none, none] [] S Q := by
  refine z_go (Gr := Gr) (zc := zc n w) (K := 168) oV_Mo_end 1 (pc' := 76) (L' := [none, none, none]) (st' := [.int (-1)]) rfl ?_
  exact z_ret (v := (some (.int (-1)))) (oV_Mo_end.1 (76, .ireturn) (ip_lk_mem rfl)) k0
set_option maxRecDepth 100000 in
theorem b_Mo_end_64 {l : Launch} {Gr : zG} {n w : Nat} {d : Nat} {S : zS} {Q : Option Value → zS → Prop} {x1 : Int32} {x2 : Int32} (g0 : vp_in x2 20) (k0 : (S.1 74 ((x2 : Int32).toNatClampNeg)) ≤ 126 → zW l Gr (zc n w) 168 M_Mo_end d 77 [some (.ref 105), some (.int x1), some (.int x2)] [] S Q) (k1 : ¬ (S.1 74 ((x2 : Int32).toNatClampNeg)) ≤ 126 → zW l Gr (zc n w) 168 M_Mo_end d 75 [none, none, none] [] S Q) : zW l Gr (zc n w) 168 M_Mo_end d 64 [some (.ref 105), some (.int x1), some (.int x2)] [] S Q := by
  refine z_go (Gr := Gr) (zc := zc n w) (K := 168) oV_Mo_end 3 (pc' := 69) (L' := [some (.ref 105), some (.int x1), some (.int x2)]) (st' := [.int x2, .ref 106]) rfl ?_
  refine z_iald (Gr := Gr) (c := 74) (oV_Mo_end.1 (69, .iaload) (ip_lk_mem rfl)) (by decide) rfl g0 ?_
  refine z_go (Gr := Gr) (zc := zc n w) (K := 168) oV_Mo_end 1 (pc' := 72) (L' := [some (.ref 105), some (.int x1), some (.int x2)]) (st' := [.int 126, .int (S.1 74 ((x2 : Int32).toNatClampNeg))]) rfl ?_
  exact z_icle (Gr := Gr) (tgt := 77) (oV_Mo_end.1 (72, .if_icmp .le 5) (ip_lk_mem rfl)) (by decide) (fun q => (k0 q)) (fun q => (z_forget (k1 q) trivial))
set_option maxRecDepth 100000 in
theorem b_Mo_end_144 {l : Launch} {Gr : zG} {n w : Nat} {d : Nat} {S : zS} {Q : Option Value → zS → Prop}   (k0 : Q (some (.int (S.1 73 5))) S) : zW l Gr (zc n w) 168 M_Mo_end d 144 [some (.ref 105), none, none] [] S Q := by
  refine z_go (Gr := Gr) (zc := zc n w) (K := 168) oV_Mo_end 2 (pc' := 148) (L' := [some (.ref 105), none, none]) (st' := [.int (S.1 73 5)]) rfl ?_
  exact z_ret (v := (some (.int (S.1 73 5)))) (oV_Mo_end.1 (148, .ireturn) (ip_lk_mem rfl)) k0
set_option maxRecDepth 100000 in
theorem b_Mo_end_131 {l : Launch} {Gr : zG} {n w : Nat} {d : Nat} {S : zS} {Q : Option Value → zS → Prop} {x2 : Int32} (g0 : vp_in x2 20) (k0 : zW l Gr (zc n w) 168 M_Mo_end d 125 [some (.ref 105), none, some (.int (x2 + Int32.ofInt 1))] [] (zi S 74 ((x2 : Int32).toNatClampNeg) 0) Q) : zW l Gr (zc n w) 168 M_Mo_end d 131 [some (.ref 105), none, some (.int x2)] [] S Q := by
  refine z_go (Gr := Gr) (zc := zc n w) (K := 168) oV_Mo_end 4 (pc' := 137) (L' := [some (.ref 105), none, some (.int x2)]) (st' := [.int 0, .int x2, .ref 106]) rfl ?_
  refine z_iast (Gr := Gr) (c := 74) (oV_Mo_end.1 (137, .iastore) (ip_lk_mem rfl)) (by decide) (fun _ => rfl) g0 ?_
  refine z_go (Gr := Gr) (zc := zc n w) (K := 168) oV_Mo_end 2 (pc' := 125) (L' := [some (.ref 105), none, some (.int (x2 + Int32.ofInt 1))]) (st' := []) rfl ?_
  exact k0
theorem e_Mo_end {l : Launch} {Gr : zG} {n w : Nat} {d : Nat} {S : zS} {R : Int32 → zS → Prop} {x1 : Int32} (k : zW l Gr (zc n w) 168 M_Mo_end d 0 [some (.ref 105), some (.int x1), none] [] S (fun v S' => ∃ x, v = some (.int x) ∧ R x S')) : zMi l Gr (zc n w) 168 M_Mo_end d [.ref 105, .int x1] S R := z_mi oM_Mo_end rfl (Nat.le_of_ble_eq_true rfl) k
set_option maxRecDepth 100000 in
theorem b_Mo_seed_0 {l : Launch} {Gr : zG} {n w : Nat} {d : Nat} {S : zS} {Q : Option Value → zS → Prop} {x1 : Int32}  (k0 : Q none (zi S 73 120 x1)) : zW l Gr (zc n w) 168 M_Mo_seed d 0 [some (.ref 105), some (.int x1)] [] S Q := by
  refine z_go (Gr := Gr) (zc := zc n w) (K := 168) oV_Mo_seed 2 (pc' := 2) (L' := [some (.ref 105), some (.int x1)]) (st' := [.int x1, .ref 105]) rfl ?_
  refine z_putI (Gr := Gr) (c := 73) (oV_Mo_seed.1 (2, .putfield 310) (ip_lk_mem rfl)) (oV_Mo_seed.2.1 (310, 12, 120, .int, false) (ip_lk_mem rfl)).1 (by decide) (zo_73 _ _ _ _) (zs_73_120 _ _ _ _ _) (zn_73_120 _ _ _ _) rfl ?_
  exact z_ret (v := none) (oV_Mo_seed.1 (5, .return_) (ip_lk_mem rfl)) k0
theorem e_Mo_seed {l : Launch} {Gr : zG} {n w : Nat} {d : Nat} {S : zS} {R : zS → Prop} {x1 : Int32} (k : zW l Gr (zc n w) 168 M_Mo_seed d 0 [some (.ref 105), some (.int x1)] [] S (fun v S' => v = none ∧ R S')) : zMv l Gr (zc n w) 168 M_Mo_seed d [.ref 105, .int x1] S R := z_mv oM_Mo_seed rfl (Nat.le_of_ble_eq_true rfl) k
set_option maxRecDepth 100000 in
theorem b_Mo_gate_0 {l : Launch} {Gr : zG} {n w : Nat} {d : Nat} {S : zS} {Q : Option Value → zS → Prop} {x1 : Int32} {x2 : Int32}  (k0 : (S.1 73 83) = 0 → zW l Gr (zc n w) 168 M_Mo_gate d 28 [none, none, none] [] S Q) (k1 : ¬ (S.1 73 83) = 0 → zW l Gr (zc n w) 168 M_Mo_gate d 7 [some (.ref 105), some (.int x1), some (.int x2)] [] S Q) : zW l Gr (zc n w) 168 M_Mo_gate d 0 [some (.ref 105), some (.int x1), some (.int x2)] [] S Q := by
  refine z_go (Gr := Gr) (zc := zc n w) (K := 168) oV_Mo_gate 2 (pc' := 4) (L' := [some (.ref 105), some (.int x1), some (.int x2)]) (st' := [.int (S.1 73 83)]) rfl ?_
  exact z_ifeq (Gr := Gr) (tgt := 28) (oV_Mo_gate.1 (4, .ifCond .eq 24) (ip_lk_mem rfl)) (by decide) (fun q => (z_forget (k0 q) trivial)) (fun q => (k1 q))
set_option maxRecDepth 100000 in
theorem b_Mo_gate_28 {l : Launch} {Gr : zG} {n w : Nat} {d : Nat} {S : zS} {Q : Option Value → zS → Prop}   (k0 : Q (some (.int (-1))) S) : zW l Gr (zc n w) 168 M_Mo_gate d 28 [none, none, none] [] S Q := by
  refine z_go (Gr := Gr) (zc := zc n w) (K := 168) oV_Mo_gate 1 (pc' := 29) (L' := [none, none, none]) (st' := [.int (-1)]) rfl ?_
  exact z_ret (v := (some (.int (-1)))) (oV_Mo_gate.1 (29, .ireturn) (ip_lk_mem rfl)) k0
set_option maxRecDepth 100000 in
theorem b_Mo_gate_7 {l : Launch} {Gr : zG} {n w : Nat} {d : Nat} {S : zS} {Q : Option Value → zS → Prop} {x1 : Int32} {x2 : Int32}  (k0 : x1 < 0 → zW l Gr (zc n w) 168 M_Mo_gate d 28 [none, none, none] [] S Q) (k1 : ¬ x1 < 0 → zW l Gr (zc n w) 168 M_Mo_gate d 11 [some (.ref 105), some (.int x1), some (.int x2)] [] S Q) : zW l Gr (zc n w) 168 M_Mo_gate d 7 [some (.ref 105), some (.int x1), some (.int x2)] [] S Q := by
  refine z_go (Gr := Gr) (zc := zc n w) (K := 168) oV_Mo_gate 1 (pc' := 8) (L' := [some (.ref 105), some (.int x1), some (.int x2)]) (st' := [.int x1]) rfl ?_
  exact z_iflt (Gr := Gr) (tgt := 28) (oV_Mo_gate.1 (8, .ifCond .lt 20) (ip_lk_mem rfl)) (by decide) (fun q => (z_forget (k0 q) trivial)) (fun q => (k1 q))
set_option maxRecDepth 100000 in
theorem b_Mo_gate_11 {l : Launch} {Gr : zG} {n w : Nat} {d : Nat} {S : zS} {Q : Option Value → zS → Prop} {x1 : Int32} {x2 : Int32}  (k0 : (S.1 73 66) ≤ x1 → zW l Gr (zc n w) 168 M_Mo_gate d 28 [none, none, none] [] S Q) (k1 : ¬ (S.1 73 66) ≤ x1 → zW l Gr (zc n w) 168 M_Mo_gate d 19 [some (.ref 105), some (.int x1), some (.int x2)] [] S Q) : zW l Gr (zc n w) 168 M_Mo_gate d 11 [some (.ref 105), some (.int x1), some (.int x2)] [] S Q := by
  refine z_go (Gr := Gr) (zc := zc n w) (K := 168) oV_Mo_gate 3 (pc' := 16) (L' := [some (.ref 105), some (.int x1), some (.int x2)]) (st' := [.int (S.1 73 66), .int x1]) rfl ?_
  exact z_icge (Gr := Gr) (tgt := 28) (oV_Mo_gate.1 (16, .if_icmp .ge 12) (ip_lk_mem rfl)) (by decide) (fun q => (z_forget (k0 q) trivial)) (fun q => (k1 q))
set_option maxRecDepth 100000 in
theorem b_Mo_gate_19 {l : Launch} {Gr : zG} {n w : Nat} {d : Nat} {S : zS} {Q : Option Value → zS → Prop} {x1 : Int32} {x2 : Int32}  (k0 : x2 < 0 → zW l Gr (zc n w) 168 M_Mo_gate d 28 [none, none, none] [] S Q) (k1 : ¬ x2 < 0 → zW l Gr (zc n w) 168 M_Mo_gate d 23 [some (.ref 105), some (.int x1), some (.int x2)] [] S Q) : zW l Gr (zc n w) 168 M_Mo_gate d 19 [some (.ref 105), some (.int x1), some (.int x2)] [] S Q := by
  refine z_go (Gr := Gr) (zc := zc n w) (K := 168) oV_Mo_gate 1 (pc' := 20) (L' := [some (.ref 105), some (.int x1), some (.int x2)]) (st' := [.int x2]) rfl ?_
  exact z_iflt (Gr := Gr) (tgt := 28) (oV_Mo_gate.1 (20, .ifCond .lt 8) (ip_lk_mem rfl)) (by decide) (fun q => (z_forget (k0 q) trivial)) (fun q => (k1 q))
set_option maxRecDepth 100000 in
theorem b_Mo_gate_23 {l : Launch} {Gr : zG} {n w : Nat} {d : Nat} {S : zS} {Q : Option Value → zS → Prop} {x1 : Int32} {x2 : Int32}  (k0 : x2 ≤ 3 → zW l Gr (zc n w) 168 M_Mo_gate d 30 [some (.ref 105), some (.int x1), some (.int x2)] [] S Q) (k1 : ¬ x2 ≤ 3 → zW l Gr (zc n w) 168 M_Mo_gate d 28 [none, none, none] [] S Q) : zW l Gr (zc n w) 168 M_Mo_gate d 23 [some (.ref 105), some (.int x1), some (.int x2)] [] S Q := by
  refine z_go (Gr := Gr) (zc := zc n w) (K := 168) oV_Mo_gate 2 (pc' := 25) (L' := [some (.ref 105), some (.int x1), some (.int x2)]) (st' := [.int 3, .int x2]) rfl ?_
  exact z_icle (Gr := Gr) (tgt := 30) (oV_Mo_gate.1 (25, .if_icmp .le 5) (ip_lk_mem rfl)) (by decide) (fun q => (k0 q)) (fun q => (z_forget (k1 q) trivial))
set_option maxRecDepth 100000 in
theorem b_Mo_gate_30 {l : Launch} {Gr : zG} {n w : Nat} {d : Nat} {S : zS} {Q : Option Value → zS → Prop} {x1 : Int32} {x2 : Int32}  (k0 : ¬ x2 = 0 → zW l Gr (zc n w) 168 M_Mo_gate d 43 [some (.ref 105), some (.int x1), some (.int x2)] [] S Q) (k1 : x2 = 0 → zW l Gr (zc n w) 168 M_Mo_gate d 34 [some (.ref 105), some (.int x1), none] [] S Q) : zW l Gr (zc n w) 168 M_Mo_gate d 30 [some (.ref 105), some (.int x1), some (.int x2)] [] S Q := by
  refine z_go (Gr := Gr) (zc := zc n w) (K := 168) oV_Mo_gate 1 (pc' := 31) (L' := [some (.ref 105), some (.int x1), some (.int x2)]) (st' := [.int x2]) rfl ?_
  exact z_ifne (Gr := Gr) (tgt := 43) (oV_Mo_gate.1 (31, .ifCond .ne 12) (ip_lk_mem rfl)) (by decide) (fun q => (k0 q)) (fun q => (z_forget (k1 q) (And.intro rfl (And.intro rfl trivial))))
set_option maxRecDepth 100000 in
theorem b_Mo_gate_43 {l : Launch} {Gr : zG} {n w : Nat} {d : Nat} {S : zS} {Q : Option Value → zS → Prop} {x1 : Int32} {x2 : Int32}  (k0 : ¬ x2 = 1 → zW l Gr (zc n w) 168 M_Mo_gate d 57 [some (.ref 105), some (.int x1), some (.int x2)] [] S Q) (k1 : x2 = 1 → zW l Gr (zc n w) 168 M_Mo_gate d 48 [some (.ref 105), some (.int x1), none] [] S Q) : zW l Gr (zc n w) 168 M_Mo_gate d 43 [some (.ref 105), some (.int x1), some (.int x2)] [] S Q := by
  refine z_go (Gr := Gr) (zc := zc n w) (K := 168) oV_Mo_gate 2 (pc' := 45) (L' := [some (.ref 105), some (.int x1), some (.int x2)]) (st' := [.int 1, .int x2]) rfl ?_
  exact z_icne (Gr := Gr) (tgt := 57) (oV_Mo_gate.1 (45, .if_icmp .ne 12) (ip_lk_mem rfl)) (by decide) (fun q => (k0 q)) (fun q => (z_forget (k1 q) (And.intro rfl (And.intro rfl trivial))))
set_option maxRecDepth 100000 in
theorem b_Mo_gate_34 {l : Launch} {Gr : zG} {n w : Nat} {d : Nat} {S : zS} {Q : Option Value → zS → Prop} {x1 : Int32} (g0 : vp_in x1 40000) (k0 : zW l Gr (zc n w) 168 M_Mo_gate d 77 [none, none, none] [.int (S.1 111 ((x1 : Int32).toNatClampNeg))] S Q) : zW l Gr (zc n w) 168 M_Mo_gate d 34 [some (.ref 105), some (.int x1), none] [] S Q := by
  refine z_go (Gr := Gr) (zc := zc n w) (K := 168) oV_Mo_gate 3 (pc' := 39) (L' := [some (.ref 105), some (.int x1), none]) (st' := [.int x1, .ref 143]) rfl ?_
  refine z_iald (Gr := Gr) (c := 111) (oV_Mo_gate.1 (39, .iaload) (ip_lk_mem rfl)) (by decide) rfl g0 ?_
  refine z_go (Gr := Gr) (zc := zc n w) (K := 168) oV_Mo_gate 1 (pc' := 77) (L' := [some (.ref 105), some (.int x1), none]) (st' := [.int (S.1 111 ((x1 : Int32).toNatClampNeg))]) rfl ?_
  exact (z_forget k0 trivial)
set_option maxRecDepth 100000 in
theorem b_Mo_gate_57 {l : Launch} {Gr : zG} {n w : Nat} {d : Nat} {S : zS} {Q : Option Value → zS → Prop} {x1 : Int32} {x2 : Int32}  (k0 : ¬ x2 = 2 → zW l Gr (zc n w) 168 M_Mo_gate d 71 [some (.ref 105), some (.int x1), none] [] S Q) (k1 : x2 = 2 → zW l Gr (zc n w) 168 M_Mo_gate d 62 [some (.ref 105), some (.int x1), none] [] S Q) : zW l Gr (zc n w) 168 M_Mo_gate d 57 [some (.ref 105), some (.int x1), some (.int x2)] [] S Q := by
  refine z_go (Gr := Gr) (zc := zc n w) (K := 168) oV_Mo_gate 2 (pc' := 59) (L' := [some (.ref 105), some (.int x1), some (.int x2)]) (st' := [.int 2, .int x2]) rfl ?_
  exact z_icne (Gr := Gr) (tgt := 71) (oV_Mo_gate.1 (59, .if_icmp .ne 12) (ip_lk_mem rfl)) (by decide) (fun q => (z_forget (k0 q) (And.intro rfl (And.intro rfl trivial)))) (fun q => (z_forget (k1 q) (And.intro rfl (And.intro rfl trivial))))
set_option maxRecDepth 100000 in
theorem b_Mo_gate_48 {l : Launch} {Gr : zG} {n w : Nat} {d : Nat} {S : zS} {Q : Option Value → zS → Prop} {x1 : Int32} (g0 : vp_in x1 40000) (k0 : zW l Gr (zc n w) 168 M_Mo_gate d 77 [none, none, none] [.int (S.1 112 ((x1 : Int32).toNatClampNeg))] S Q) : zW l Gr (zc n w) 168 M_Mo_gate d 48 [some (.ref 105), some (.int x1), none] [] S Q := by
  refine z_go (Gr := Gr) (zc := zc n w) (K := 168) oV_Mo_gate 3 (pc' := 53) (L' := [some (.ref 105), some (.int x1), none]) (st' := [.int x1, .ref 144]) rfl ?_
  refine z_iald (Gr := Gr) (c := 112) (oV_Mo_gate.1 (53, .iaload) (ip_lk_mem rfl)) (by decide) rfl g0 ?_
  refine z_go (Gr := Gr) (zc := zc n w) (K := 168) oV_Mo_gate 1 (pc' := 77) (L' := [some (.ref 105), some (.int x1), none]) (st' := [.int (S.1 112 ((x1 : Int32).toNatClampNeg))]) rfl ?_
  exact (z_forget k0 trivial)
set_option maxRecDepth 100000 in
theorem b_Mo_gate_77 {l : Launch} {Gr : zG} {n w : Nat} {d : Nat} {S : zS} {Q : Option Value → zS → Prop} {s0 : Int32}  (k0 : Q (some (.int s0)) S) : zW l Gr (zc n w) 168 M_Mo_gate d 77 [none, none, none] [.int s0] S Q := by
  exact z_ret (v := (some (.int s0))) (oV_Mo_gate.1 (77, .ireturn) (ip_lk_mem rfl)) k0
set_option maxRecDepth 100000 in
theorem b_Mo_gate_71 {l : Launch} {Gr : zG} {n w : Nat} {d : Nat} {S : zS} {Q : Option Value → zS → Prop} {x1 : Int32} (g0 : vp_in x1 40000) (k0 : zW l Gr (zc n w) 168 M_Mo_gate d 77 [none, none, none] [.int (S.1 114 ((x1 : Int32).toNatClampNeg))] S Q) : zW l Gr (zc n w) 168 M_Mo_gate d 71 [some (.ref 105), some (.int x1), none] [] S Q := by
  refine z_go (Gr := Gr) (zc := zc n w) (K := 168) oV_Mo_gate 3 (pc' := 76) (L' := [some (.ref 105), some (.int x1), none]) (st' := [.int x1, .ref 146]) rfl ?_
  refine z_iald (Gr := Gr) (c := 114) (oV_Mo_gate.1 (76, .iaload) (ip_lk_mem rfl)) (by decide) rfl g0 ?_
  exact (z_forget k0 trivial)
set_option maxRecDepth 100000 in
theorem b_Mo_gate_62 {l : Launch} {Gr : zG} {n w : Nat} {d : Nat} {S : zS} {Q : Option Value → zS → Prop} {x1 : Int32} (g0 : vp_in x1 40000) (k0 : zW l Gr (zc n w) 168 M_Mo_gate d 77 [none, none, none] [.int (S.1 113 ((x1 : Int32).toNatClampNeg))] S Q) : zW l Gr (zc n w) 168 M_Mo_gate d 62 [some (.ref 105), some (.int x1), none] [] S Q := by
  refine z_go (Gr := Gr) (zc := zc n w) (K := 168) oV_Mo_gate 3 (pc' := 67) (L' := [some (.ref 105), some (.int x1), none]) (st' := [.int x1, .ref 145]) rfl ?_
  refine z_iald (Gr := Gr) (c := 113) (oV_Mo_gate.1 (67, .iaload) (ip_lk_mem rfl)) (by decide) rfl g0 ?_
  refine z_go (Gr := Gr) (zc := zc n w) (K := 168) oV_Mo_gate 1 (pc' := 77) (L' := [some (.ref 105), some (.int x1), none]) (st' := [.int (S.1 113 ((x1 : Int32).toNatClampNeg))]) rfl ?_
  exact (z_forget k0 trivial)
theorem e_Mo_gate {l : Launch} {Gr : zG} {n w : Nat} {d : Nat} {S : zS} {R : Int32 → zS → Prop} {x1 : Int32} {x2 : Int32} (k : zW l Gr (zc n w) 168 M_Mo_gate d 0 [some (.ref 105), some (.int x1), some (.int x2)] [] S (fun v S' => ∃ x, v = some (.int x) ∧ R x S')) : zMi l Gr (zc n w) 168 M_Mo_gate d [.ref 105, .int x1, .int x2] S R := z_mi oM_Mo_gate rfl (Nat.le_of_ble_eq_true rfl) k
set_option maxRecDepth 100000 in
theorem b_Mo_literal_0 {l : Launch} {Gr : zG} {n w : Nat} {d : Nat} {S : zS} {Q : Option Value → zS → Prop} {x1 : Int32} {x2 : Int32}  (k0 : (S.1 73 83) = 0 → zW l Gr (zc n w) 168 M_Mo_literal d 48 [none, none, none] [] S Q) (k1 : ¬ (S.1 73 83) = 0 → zW l Gr (zc n w) 168 M_Mo_literal d 7 [some (.ref 105), some (.int x1), some (.int x2)] [] S Q) : zW l Gr (zc n w) 168 M_Mo_literal d 0 [some (.ref 105), some (.int x1), some (.int x2)] [] S Q := by
  refine z_go (Gr := Gr) (zc := zc n w) (K := 168) oV_Mo_literal 2 (pc' := 4) (L' := [some (.ref 105), some (.int x1), some (.int x2)]) (st' := [.int (S.1 73 83)]) rfl ?_
  exact z_ifeq (Gr := Gr) (tgt := 48) (oV_Mo_literal.1 (4, .ifCond .eq 44) (ip_lk_mem rfl)) (by decide) (fun q => (z_forget (k0 q) trivial)) (fun q => (k1 q))
set_option maxRecDepth 100000 in
theorem b_Mo_literal_48 {l : Launch} {Gr : zG} {n w : Nat} {d : Nat} {S : zS} {Q : Option Value → zS → Prop}   (k0 : zW l Gr (zc n w) 168 M_Mo_literal d 64 [none, none, none] [.int (-3)] S Q) : zW l Gr (zc n w) 168 M_Mo_literal d 48 [none, none, none] [] S Q := by
  refine z_go (Gr := Gr) (zc := zc n w) (K := 168) oV_Mo_literal 2 (pc' := 64) (L' := [none, none, none]) (st' := [.int (-3)]) rfl ?_
  exact k0
set_option maxRecDepth 100000 in
theorem b_Mo_literal_7 {l : Launch} {Gr : zG} {n w : Nat} {d : Nat} {S : zS} {Q : Option Value → zS → Prop} {x1 : Int32} {x2 : Int32}  (k0 : x1 < 0 → zW l Gr (zc n w) 168 M_Mo_literal d 48 [none, none, none] [] S Q) (k1 : ¬ x1 < 0 → zW l Gr (zc n w) 168 M_Mo_literal d 11 [some (.ref 105), some (.int x1), some (.int x2)] [] S Q) : zW l Gr (zc n w) 168 M_Mo_literal d 7 [some (.ref 105), some (.int x1), some (.int x2)] [] S Q := by
  refine z_go (Gr := Gr) (zc := zc n w) (K := 168) oV_Mo_literal 1 (pc' := 8) (L' := [some (.ref 105), some (.int x1), some (.int x2)]) (st' := [.int x1]) rfl ?_
  exact z_iflt (Gr := Gr) (tgt := 48) (oV_Mo_literal.1 (8, .ifCond .lt 40) (ip_lk_mem rfl)) (by decide) (fun q => (z_forget (k0 q) trivial)) (fun q => (k1 q))
set_option maxRecDepth 100000 in
theorem b_Mo_literal_64 {l : Launch} {Gr : zG} {n w : Nat} {d : Nat} {S : zS} {Q : Option Value → zS → Prop} {s0 : Int32}  (k0 : Q (some (.int s0)) S) : zW l Gr (zc n w) 168 M_Mo_literal d 64 [none, none, none] [.int s0] S Q := by
  exact z_ret (v := (some (.int s0))) (oV_Mo_literal.1 (64, .ireturn) (ip_lk_mem rfl)) k0
set_option maxRecDepth 100000 in
theorem b_Mo_literal_11 {l : Launch} {Gr : zG} {n w : Nat} {d : Nat} {S : zS} {Q : Option Value → zS → Prop} {x1 : Int32} {x2 : Int32}  (k0 : (S.1 73 69) ≤ x1 → zW l Gr (zc n w) 168 M_Mo_literal d 48 [none, none, none] [] S Q) (k1 : ¬ (S.1 73 69) ≤ x1 → zW l Gr (zc n w) 168 M_Mo_literal d 19 [some (.ref 105), some (.int x1), some (.int x2)] [] S Q) : zW l Gr (zc n w) 168 M_Mo_literal d 11 [some (.ref 105), some (.int x1), some (.int x2)] [] S Q := by
  refine z_go (Gr := Gr) (zc := zc n w) (K := 168) oV_Mo_literal 3 (pc' := 16) (L' := [some (.ref 105), some (.int x1), some (.int x2)]) (st' := [.int (S.1 73 69), .int x1]) rfl ?_
  exact z_icge (Gr := Gr) (tgt := 48) (oV_Mo_literal.1 (16, .if_icmp .ge 32) (ip_lk_mem rfl)) (by decide) (fun q => (z_forget (k0 q) trivial)) (fun q => (k1 q))
set_option maxRecDepth 100000 in
theorem b_Mo_literal_19 {l : Launch} {Gr : zG} {n w : Nat} {d : Nat} {S : zS} {Q : Option Value → zS → Prop} {x1 : Int32} {x2 : Int32}  (k0 : x2 < 0 → zW l Gr (zc n w) 168 M_Mo_literal d 48 [none, none, none] [] S Q) (k1 : ¬ x2 < 0 → zW l Gr (zc n w) 168 M_Mo_literal d 23 [some (.ref 105), some (.int x1), some (.int x2)] [] S Q) : zW l Gr (zc n w) 168 M_Mo_literal d 19 [some (.ref 105), some (.int x1), some (.int x2)] [] S Q := by
  refine z_go (Gr := Gr) (zc := zc n w) (K := 168) oV_Mo_literal 1 (pc' := 20) (L' := [some (.ref 105), some (.int x1), some (.int x2)]) (st' := [.int x2]) rfl ?_
  exact z_iflt (Gr := Gr) (tgt := 48) (oV_Mo_literal.1 (20, .ifCond .lt 28) (ip_lk_mem rfl)) (by decide) (fun q => (z_forget (k0 q) trivial)) (fun q => (k1 q))
set_option maxRecDepth 100000 in
theorem b_Mo_literal_23 {l : Launch} {Gr : zG} {n w : Nat} {d : Nat} {S : zS} {Q : Option Value → zS → Prop} {x1 : Int32} {x2 : Int32}  (k0 : x1 < 0 → zW l Gr (zc n w) 168 M_Mo_literal d 43 [some (.ref 105), some (.int x1), some (.int x2)] [.ref 152, .int x2] S Q) (k1 : ¬ x1 < 0 → zW l Gr (zc n w) 168 M_Mo_literal d 32 [some (.ref 105), some (.int x1), some (.int x2)] [.ref 152, .int x2] S Q) : zW l Gr (zc n w) 168 M_Mo_literal d 23 [some (.ref 105), some (.int x1), some (.int x2)] [] S Q := by
  refine z_go (Gr := Gr) (zc := zc n w) (K := 168) oV_Mo_literal 4 (pc' := 29) (L' := [some (.ref 105), some (.int x1), some (.int x2)]) (st' := [.int x1, .ref 152, .int x2]) rfl ?_
  exact z_iflt (Gr := Gr) (tgt := 43) (oV_Mo_literal.1 (29, .ifCond .lt 14) (ip_lk_mem rfl)) (by decide) (fun q => (k0 q)) (fun q => (k1 q))
set_option maxRecDepth 100000 in
theorem b_Mo_literal_43 {l : Launch} {Gr : zG} {n w : Nat} {d : Nat} {S : zS} {Q : Option Value → zS → Prop} {x1 : Int32} {x2 : Int32} {s1 : Int32}  (k0 : zW l Gr (zc n w) 168 M_Mo_literal d 44 [some (.ref 105), some (.int x1), some (.int x2)] [.int 0, .ref 152, .int s1] S Q) : zW l Gr (zc n w) 168 M_Mo_literal d 43 [some (.ref 105), some (.int x1), some (.int x2)] [.ref 152, .int s1] S Q := by
  refine z_go (Gr := Gr) (zc := zc n w) (K := 168) oV_Mo_literal 1 (pc' := 44) (L' := [some (.ref 105), some (.int x1), some (.int x2)]) (st' := [.int 0, .ref 152, .int s1]) rfl ?_
  exact k0
set_option maxRecDepth 100000 in
theorem b_Mo_literal_32 {l : Launch} {Gr : zG} {n w : Nat} {d : Nat} {S : zS} {Q : Option Value → zS → Prop} {x1 : Int32} {x2 : Int32} {s1 : Int32}  (k0 : 500 ≤ x1 → zW l Gr (zc n w) 168 M_Mo_literal d 43 [some (.ref 105), some (.int x1), some (.int x2)] [.ref 152, .int s1] S Q) (k1 : ¬ 500 ≤ x1 → zW l Gr (zc n w) 168 M_Mo_literal d 39 [some (.ref 105), some (.int x1), some (.int x2)] [.ref 152, .int s1] S Q) : zW l Gr (zc n w) 168 M_Mo_literal d 32 [some (.ref 105), some (.int x1), some (.int x2)] [.ref 152, .int s1] S Q := by
  refine z_go (Gr := Gr) (zc := zc n w) (K := 168) oV_Mo_literal 2 (pc' := 36) (L' := [some (.ref 105), some (.int x1), some (.int x2)]) (st' := [.int 500, .int x1, .ref 152, .int s1]) rfl ?_
  exact z_icge (Gr := Gr) (tgt := 43) (oV_Mo_literal.1 (36, .if_icmp .ge 7) (ip_lk_mem rfl)) (by decide) (fun q => (k0 q)) (fun q => (k1 q))
set_option maxRecDepth 100000 in
theorem b_Mo_literal_44 {l : Launch} {Gr : zG} {n w : Nat} {d : Nat} {S : zS} {Q : Option Value → zS → Prop} {x1 : Int32} {x2 : Int32} {s0 : Int32} {s2 : Int32} (g0 : vp_in s0 500) (k0 : s2 < (S.1 120 ((s0 : Int32).toNatClampNeg)) → zW l Gr (zc n w) 168 M_Mo_literal d 53 [some (.ref 105), some (.int x1), some (.int x2)] [] S Q) (k1 : ¬ s2 < (S.1 120 ((s0 : Int32).toNatClampNeg)) → zW l Gr (zc n w) 168 M_Mo_literal d 48 [none, none, none] [] S Q) : zW l Gr (zc n w) 168 M_Mo_literal d 44 [some (.ref 105), some (.int x1), some (.int x2)] [.int s0, .ref 152, .int s2] S Q := by
  refine z_iald (Gr := Gr) (c := 120) (oV_Mo_literal.1 (44, .iaload) (ip_lk_mem rfl)) (by decide) rfl g0 ?_
  exact z_iclt (Gr := Gr) (tgt := 53) (oV_Mo_literal.1 (45, .if_icmp .lt 8) (ip_lk_mem rfl)) (by decide) (fun q => (k0 q)) (fun q => (z_forget (k1 q) trivial))
set_option maxRecDepth 100000 in
theorem b_Mo_literal_39 {l : Launch} {Gr : zG} {n w : Nat} {d : Nat} {S : zS} {Q : Option Value → zS → Prop} {x1 : Int32} {x2 : Int32} {s1 : Int32}  (k0 : zW l Gr (zc n w) 168 M_Mo_literal d 44 [some (.ref 105), some (.int x1), some (.int x2)] [.int x1, .ref 152, .int s1] S Q) : zW l Gr (zc n w) 168 M_Mo_literal d 39 [some (.ref 105), some (.int x1), some (.int x2)] [.ref 152, .int s1] S Q := by
  refine z_go (Gr := Gr) (zc := zc n w) (K := 168) oV_Mo_literal 2 (pc' := 44) (L' := [some (.ref 105), some (.int x1), some (.int x2)]) (st' := [.int x1, .ref 152, .int s1]) rfl ?_
  exact k0
set_option maxRecDepth 100000 in
theorem b_Mo_literal_53 {l : Launch} {Gr : zG} {n w : Nat} {d : Nat} {S : zS} {Q : Option Value → zS → Prop} {x1 : Int32} {x2 : Int32} (g0 : vp_in ((32 * x1) + x2) 16000) (k0 : zW l Gr (zc n w) 168 M_Mo_literal d 64 [none, none, none] [.int (S.1 121 ((((32 * x1) + x2) : Int32).toNatClampNeg))] S Q) : zW l Gr (zc n w) 168 M_Mo_literal d 53 [some (.ref 105), some (.int x1), some (.int x2)] [] S Q := by
  refine z_go (Gr := Gr) (zc := zc n w) (K := 168) oV_Mo_literal 7 (pc' := 63) (L' := [some (.ref 105), some (.int x1), some (.int x2)]) (st' := [.int ((32 * x1) + x2), .ref 153]) rfl ?_
  refine z_iald (Gr := Gr) (c := 121) (oV_Mo_literal.1 (63, .iaload) (ip_lk_mem rfl)) (by decide) rfl g0 ?_
  exact (z_forget k0 trivial)
theorem e_Mo_literal {l : Launch} {Gr : zG} {n w : Nat} {d : Nat} {S : zS} {R : Int32 → zS → Prop} {x1 : Int32} {x2 : Int32} (k : zW l Gr (zc n w) 168 M_Mo_literal d 0 [some (.ref 105), some (.int x1), some (.int x2)] [] S (fun v S' => ∃ x, v = some (.int x) ∧ R x S')) : zMi l Gr (zc n w) 168 M_Mo_literal d [.ref 105, .int x1, .int x2] S R := z_mi oM_Mo_literal rfl (Nat.le_of_ble_eq_true rfl) k
set_option maxRecDepth 100000 in
theorem b_Mo_input_0 {l : Launch} {Gr : zG} {n w : Nat} {d : Nat} {S : zS} {Q : Option Value → zS → Prop} {x1 : Int32} {x2 : Int32}  (k0 : (S.1 73 83) = 0 → zW l Gr (zc n w) 168 M_Mo_input d 28 [none, none, none] [] S Q) (k1 : ¬ (S.1 73 83) = 0 → zW l Gr (zc n w) 168 M_Mo_input d 7 [some (.ref 105), some (.int x1), some (.int x2)] [] S Q) : zW l Gr (zc n w) 168 M_Mo_input d 0 [some (.ref 105), some (.int x1), some (.int x2)] [] S Q := by
  refine z_go (Gr := Gr) (zc := zc n w) (K := 168) oV_Mo_input 2 (pc' := 4) (L' := [some (.ref 105), some (.int x1), some (.int x2)]) (st' := [.int (S.1 73 83)]) rfl ?_
  exact z_ifeq (Gr := Gr) (tgt := 28) (oV_Mo_input.1 (4, .ifCond .eq 24) (ip_lk_mem rfl)) (by decide) (fun q => (z_forget (k0 q) trivial)) (fun q => (k1 q))
set_option maxRecDepth 100000 in
theorem b_Mo_input_28 {l : Launch} {Gr : zG} {n w : Nat} {d : Nat} {S : zS} {Q : Option Value → zS → Prop}   (k0 : Q (some (.long (-1))) S) : zW l Gr (zc n w) 168 M_Mo_input d 28 [none, none, none] [] S Q := by
  refine z_go (Gr := Gr) (zc := zc n w) (K := 168) oV_Mo_input 1 (pc' := 31) (L' := [none, none, none]) (st' := [.long (-1)]) rfl ?_
  exact z_ret (v := (some (.long (-1)))) (oV_Mo_input.1 (31, .lreturn) (ip_lk_mem rfl)) k0
set_option maxRecDepth 100000 in
theorem b_Mo_input_7 {l : Launch} {Gr : zG} {n w : Nat} {d : Nat} {S : zS} {Q : Option Value → zS → Prop} {x1 : Int32} {x2 : Int32}  (k0 : x1 < 0 → zW l Gr (zc n w) 168 M_Mo_input d 28 [none, none, none] [] S Q) (k1 : ¬ x1 < 0 → zW l Gr (zc n w) 168 M_Mo_input d 11 [some (.ref 105), some (.int x1), some (.int x2)] [] S Q) : zW l Gr (zc n w) 168 M_Mo_input d 7 [some (.ref 105), some (.int x1), some (.int x2)] [] S Q := by
  refine z_go (Gr := Gr) (zc := zc n w) (K := 168) oV_Mo_input 1 (pc' := 8) (L' := [some (.ref 105), some (.int x1), some (.int x2)]) (st' := [.int x1]) rfl ?_
  exact z_iflt (Gr := Gr) (tgt := 28) (oV_Mo_input.1 (8, .ifCond .lt 20) (ip_lk_mem rfl)) (by decide) (fun q => (z_forget (k0 q) trivial)) (fun q => (k1 q))
set_option maxRecDepth 100000 in
theorem b_Mo_input_11 {l : Launch} {Gr : zG} {n w : Nat} {d : Nat} {S : zS} {Q : Option Value → zS → Prop} {x1 : Int32} {x2 : Int32}  (k0 : (S.1 73 75) ≤ x1 → zW l Gr (zc n w) 168 M_Mo_input d 28 [none, none, none] [] S Q) (k1 : ¬ (S.1 73 75) ≤ x1 → zW l Gr (zc n w) 168 M_Mo_input d 19 [some (.ref 105), some (.int x1), some (.int x2)] [] S Q) : zW l Gr (zc n w) 168 M_Mo_input d 11 [some (.ref 105), some (.int x1), some (.int x2)] [] S Q := by
  refine z_go (Gr := Gr) (zc := zc n w) (K := 168) oV_Mo_input 3 (pc' := 16) (L' := [some (.ref 105), some (.int x1), some (.int x2)]) (st' := [.int (S.1 73 75), .int x1]) rfl ?_
  exact z_icge (Gr := Gr) (tgt := 28) (oV_Mo_input.1 (16, .if_icmp .ge 12) (ip_lk_mem rfl)) (by decide) (fun q => (z_forget (k0 q) trivial)) (fun q => (k1 q))
set_option maxRecDepth 100000 in
theorem b_Mo_input_19 {l : Launch} {Gr : zG} {n w : Nat} {d : Nat} {S : zS} {Q : Option Value → zS → Prop} {x1 : Int32} {x2 : Int32}  (k0 : x2 < 0 → zW l Gr (zc n w) 168 M_Mo_input d 28 [none, none, none] [] S Q) (k1 : ¬ x2 < 0 → zW l Gr (zc n w) 168 M_Mo_input d 23 [some (.ref 105), some (.int x1), some (.int x2)] [] S Q) : zW l Gr (zc n w) 168 M_Mo_input d 19 [some (.ref 105), some (.int x1), some (.int x2)] [] S Q := by
  refine z_go (Gr := Gr) (zc := zc n w) (K := 168) oV_Mo_input 1 (pc' := 20) (L' := [some (.ref 105), some (.int x1), some (.int x2)]) (st' := [.int x2]) rfl ?_
  exact z_iflt (Gr := Gr) (tgt := 28) (oV_Mo_input.1 (20, .ifCond .lt 8) (ip_lk_mem rfl)) (by decide) (fun q => (z_forget (k0 q) trivial)) (fun q => (k1 q))
set_option maxRecDepth 100000 in
theorem b_Mo_input_23 {l : Launch} {Gr : zG} {n w : Nat} {d : Nat} {S : zS} {Q : Option Value → zS → Prop} {x1 : Int32} {x2 : Int32}  (k0 : x2 ≤ 2 → zW l Gr (zc n w) 168 M_Mo_input d 32 [some (.ref 105), some (.int x1), some (.int x2)] [] S Q) (k1 : ¬ x2 ≤ 2 → zW l Gr (zc n w) 168 M_Mo_input d 28 [none, none, none] [] S Q) : zW l Gr (zc n w) 168 M_Mo_input d 23 [some (.ref 105), some (.int x1), some (.int x2)] [] S Q := by
  refine z_go (Gr := Gr) (zc := zc n w) (K := 168) oV_Mo_input 2 (pc' := 25) (L' := [some (.ref 105), some (.int x1), some (.int x2)]) (st' := [.int 2, .int x2]) rfl ?_
  exact z_icle (Gr := Gr) (tgt := 32) (oV_Mo_input.1 (25, .if_icmp .le 7) (ip_lk_mem rfl)) (by decide) (fun q => (k0 q)) (fun q => (z_forget (k1 q) trivial))
set_option maxRecDepth 100000 in
theorem b_Mo_input_32 {l : Launch} {Gr : zG} {n w : Nat} {d : Nat} {S : zS} {Q : Option Value → zS → Prop} {x1 : Int32} {x2 : Int32}  (k0 : ¬ x2 = 0 → zW l Gr (zc n w) 168 M_Mo_input d 46 [some (.ref 105), some (.int x1), some (.int x2)] [] S Q) (k1 : x2 = 0 → zW l Gr (zc n w) 168 M_Mo_input d 36 [some (.ref 105), some (.int x1), none] [] S Q) : zW l Gr (zc n w) 168 M_Mo_input d 32 [some (.ref 105), some (.int x1), some (.int x2)] [] S Q := by
  refine z_go (Gr := Gr) (zc := zc n w) (K := 168) oV_Mo_input 1 (pc' := 33) (L' := [some (.ref 105), some (.int x1), some (.int x2)]) (st' := [.int x2]) rfl ?_
  exact z_ifne (Gr := Gr) (tgt := 46) (oV_Mo_input.1 (33, .ifCond .ne 13) (ip_lk_mem rfl)) (by decide) (fun q => (k0 q)) (fun q => (z_forget (k1 q) (And.intro rfl (And.intro rfl trivial))))
set_option maxRecDepth 100000 in
theorem b_Mo_input_46 {l : Launch} {Gr : zG} {n w : Nat} {d : Nat} {S : zS} {Q : Option Value → zS → Prop} {x1 : Int32} {x2 : Int32}  (k0 : ¬ x2 = 1 → zW l Gr (zc n w) 168 M_Mo_input d 61 [some (.ref 105), some (.int x1), none] [] S Q) (k1 : x2 = 1 → zW l Gr (zc n w) 168 M_Mo_input d 51 [some (.ref 105), some (.int x1), none] [] S Q) : zW l Gr (zc n w) 168 M_Mo_input d 46 [some (.ref 105), some (.int x1), some (.int x2)] [] S Q := by
  refine z_go (Gr := Gr) (zc := zc n w) (K := 168) oV_Mo_input 2 (pc' := 48) (L' := [some (.ref 105), some (.int x1), some (.int x2)]) (st' := [.int 1, .int x2]) rfl ?_
  exact z_icne (Gr := Gr) (tgt := 61) (oV_Mo_input.1 (48, .if_icmp .ne 13) (ip_lk_mem rfl)) (by decide) (fun q => (z_forget (k0 q) (And.intro rfl (And.intro rfl trivial)))) (fun q => (z_forget (k1 q) (And.intro rfl (And.intro rfl trivial))))
set_option maxRecDepth 100000 in
theorem b_Mo_input_36 {l : Launch} {Gr : zG} {n w : Nat} {d : Nat} {S : zS} {Q : Option Value → zS → Prop} {x1 : Int32} (g0 : vp_in x1 256) (k0 : zW l Gr (zc n w) 168 M_Mo_input d 67 [none, none, none] [.long (((S.1 115 ((x1 : Int32).toNatClampNeg)) : Int32)).toInt64] S Q) : zW l Gr (zc n w) 168 M_Mo_input d 36 [some (.ref 105), some (.int x1), none] [] S Q := by
  refine z_go (Gr := Gr) (zc := zc n w) (K := 168) oV_Mo_input 3 (pc' := 41) (L' := [some (.ref 105), some (.int x1), none]) (st' := [.int x1, .ref 147]) rfl ?_
  refine z_iald (Gr := Gr) (c := 115) (oV_Mo_input.1 (41, .iaload) (ip_lk_mem rfl)) (by decide) rfl g0 ?_
  refine z_go (Gr := Gr) (zc := zc n w) (K := 168) oV_Mo_input 2 (pc' := 67) (L' := [some (.ref 105), some (.int x1), none]) (st' := [.long (((S.1 115 ((x1 : Int32).toNatClampNeg)) : Int32)).toInt64]) rfl ?_
  exact (z_forget k0 trivial)
set_option maxRecDepth 100000 in
theorem b_Mo_input_61 {l : Launch} {Gr : zG} {n w : Nat} {d : Nat} {S : zS} {Q : Option Value → zS → Prop} {x1 : Int32} (g0 : vp_in x1 256) (k0 : zW l Gr (zc n w) 168 M_Mo_input d 67 [none, none, none] [.long (S.2 118 ((x1 : Int32).toNatClampNeg))] S Q) : zW l Gr (zc n w) 168 M_Mo_input d 61 [some (.ref 105), some (.int x1), none] [] S Q := by
  refine z_go (Gr := Gr) (zc := zc n w) (K := 168) oV_Mo_input 3 (pc' := 66) (L' := [some (.ref 105), some (.int x1), none]) (st' := [.int x1, .ref 150]) rfl ?_
  refine z_lald (Gr := Gr) (c := 118) (oV_Mo_input.1 (66, .laload) (ip_lk_mem rfl)) (by decide) rfl g0 ?_
  exact (z_forget k0 trivial)
set_option maxRecDepth 100000 in
theorem b_Mo_input_51 {l : Launch} {Gr : zG} {n w : Nat} {d : Nat} {S : zS} {Q : Option Value → zS → Prop} {x1 : Int32} (g0 : vp_in x1 256) (k0 : zW l Gr (zc n w) 168 M_Mo_input d 67 [none, none, none] [.long (((S.1 116 ((x1 : Int32).toNatClampNeg)) : Int32)).toInt64] S Q) : zW l Gr (zc n w) 168 M_Mo_input d 51 [some (.ref 105), some (.int x1), none] [] S Q := by
  refine z_go (Gr := Gr) (zc := zc n w) (K := 168) oV_Mo_input 3 (pc' := 56) (L' := [some (.ref 105), some (.int x1), none]) (st' := [.int x1, .ref 148]) rfl ?_
  refine z_iald (Gr := Gr) (c := 116) (oV_Mo_input.1 (56, .iaload) (ip_lk_mem rfl)) (by decide) rfl g0 ?_
  refine z_go (Gr := Gr) (zc := zc n w) (K := 168) oV_Mo_input 2 (pc' := 67) (L' := [some (.ref 105), some (.int x1), none]) (st' := [.long (((S.1 116 ((x1 : Int32).toNatClampNeg)) : Int32)).toInt64]) rfl ?_
  exact (z_forget k0 trivial)
set_option maxRecDepth 100000 in
theorem b_Mo_input_67 {l : Launch} {Gr : zG} {n w : Nat} {d : Nat} {S : zS} {Q : Option Value → zS → Prop} {s0 : Int64}  (k0 : Q (some (.long s0)) S) : zW l Gr (zc n w) 168 M_Mo_input d 67 [none, none, none] [.long s0] S Q := by
  exact z_ret (v := (some (.long s0))) (oV_Mo_input.1 (67, .lreturn) (ip_lk_mem rfl)) k0
theorem e_Mo_input {l : Launch} {Gr : zG} {n w : Nat} {d : Nat} {S : zS} {R : Int64 → zS → Prop} {x1 : Int32} {x2 : Int32} (k : zW l Gr (zc n w) 168 M_Mo_input d 0 [some (.ref 105), some (.int x1), some (.int x2)] [] S (fun v S' => ∃ x, v = some (.long x) ∧ R x S')) : zMl l Gr (zc n w) 168 M_Mo_input d [.ref 105, .int x1, .int x2] S R := z_ml oM_Mo_input rfl (Nat.le_of_ble_eq_true rfl) k
set_option maxRecDepth 100000 in
theorem b_Mo_give_0 {l : Launch} {Gr : zG} {n w : Nat} {d : Nat} {S : zS} {Q : Option Value → zS → Prop} {x1 : Int32} {x2 : Int32}  (k0 : (S.1 73 83) = 0 → zW l Gr (zc n w) 168 M_Mo_give d 19 [none, none, none] [] S Q) (k1 : ¬ (S.1 73 83) = 0 → zW l Gr (zc n w) 168 M_Mo_give d 7 [some (.ref 105), some (.int x1), some (.int x2)] [] S Q) : zW l Gr (zc n w) 168 M_Mo_give d 0 [some (.ref 105), some (.int x1), some (.int x2)] [] S Q := by
  refine z_go (Gr := Gr) (zc := zc n w) (K := 168) oV_Mo_give 2 (pc' := 4) (L' := [some (.ref 105), some (.int x1), some (.int x2)]) (st' := [.int (S.1 73 83)]) rfl ?_
  exact z_ifeq (Gr := Gr) (tgt := 19) (oV_Mo_give.1 (4, .ifCond .eq 15) (ip_lk_mem rfl)) (by decide) (fun q => (z_forget (k0 q) trivial)) (fun q => (k1 q))
set_option maxRecDepth 100000 in
theorem b_Mo_give_19 {l : Launch} {Gr : zG} {n w : Nat} {d : Nat} {S : zS} {Q : Option Value → zS → Prop}   (k0 : Q (some (.int 0)) S) : zW l Gr (zc n w) 168 M_Mo_give d 19 [none, none, none] [] S Q := by
  refine z_go (Gr := Gr) (zc := zc n w) (K := 168) oV_Mo_give 1 (pc' := 20) (L' := [none, none, none]) (st' := [.int 0]) rfl ?_
  exact z_ret (v := (some (.int 0))) (oV_Mo_give.1 (20, .ireturn) (ip_lk_mem rfl)) k0
set_option maxRecDepth 100000 in
theorem b_Mo_give_7 {l : Launch} {Gr : zG} {n w : Nat} {d : Nat} {S : zS} {Q : Option Value → zS → Prop} {x1 : Int32} {x2 : Int32}  (k0 : x1 < 0 → zW l Gr (zc n w) 168 M_Mo_give d 19 [none, none, none] [] S Q) (k1 : ¬ x1 < 0 → zW l Gr (zc n w) 168 M_Mo_give d 11 [some (.ref 105), some (.int x1), some (.int x2)] [] S Q) : zW l Gr (zc n w) 168 M_Mo_give d 7 [some (.ref 105), some (.int x1), some (.int x2)] [] S Q := by
  refine z_go (Gr := Gr) (zc := zc n w) (K := 168) oV_Mo_give 1 (pc' := 8) (L' := [some (.ref 105), some (.int x1), some (.int x2)]) (st' := [.int x1]) rfl ?_
  exact z_iflt (Gr := Gr) (tgt := 19) (oV_Mo_give.1 (8, .ifCond .lt 11) (ip_lk_mem rfl)) (by decide) (fun q => (z_forget (k0 q) trivial)) (fun q => (k1 q))
set_option maxRecDepth 100000 in
theorem b_Mo_give_11 {l : Launch} {Gr : zG} {n w : Nat} {d : Nat} {S : zS} {Q : Option Value → zS → Prop} {x1 : Int32} {x2 : Int32}  (k0 : x1 < (S.1 73 75) → zW l Gr (zc n w) 168 M_Mo_give d 21 [some (.ref 105), some (.int x1), some (.int x2)] [] S Q) (k1 : ¬ x1 < (S.1 73 75) → zW l Gr (zc n w) 168 M_Mo_give d 19 [none, none, none] [] S Q) : zW l Gr (zc n w) 168 M_Mo_give d 11 [some (.ref 105), some (.int x1), some (.int x2)] [] S Q := by
  refine z_go (Gr := Gr) (zc := zc n w) (K := 168) oV_Mo_give 3 (pc' := 16) (L' := [some (.ref 105), some (.int x1), some (.int x2)]) (st' := [.int (S.1 73 75), .int x1]) rfl ?_
  exact z_iclt (Gr := Gr) (tgt := 21) (oV_Mo_give.1 (16, .if_icmp .lt 5) (ip_lk_mem rfl)) (by decide) (fun q => (k0 q)) (fun q => (z_forget (k1 q) trivial))
set_option maxRecDepth 100000 in
theorem b_Mo_give_21 {l : Launch} {Gr : zG} {n w : Nat} {d : Nat} {S : zS} {Q : Option Value → zS → Prop} {x1 : Int32} {x2 : Int32} (g0 : vp_in x1 256) (k0 : (S.1 73 119) = 0 → zW l Gr (zc n w) 168 M_Mo_give d 59 [none, none, none] [.ref 105] (zj S 118 ((x1 : Int32).toNatClampNeg) (((x2 : Int32)).toInt64 &&& ((1 <<< (((S.1 116 ((x1 : Int32).toNatClampNeg)) : Int32).toInt64 &&& 63)) - 1))) Q) (k1 : ¬ (S.1 73 119) = 0 → zW l Gr (zc n w) 168 M_Mo_give d 48 [some (.ref 105), none, none] [.ref 105] (zj S 118 ((x1 : Int32).toNatClampNeg) (((x2 : Int32)).toInt64 &&& ((1 <<< (((S.1 116 ((x1 : Int32).toNatClampNeg)) : Int32).toInt64 &&& 63)) - 1))) Q) : zW l Gr (zc n w) 168 M_Mo_give d 21 [some (.ref 105), some (.int x1), some (.int x2)] [] S Q := by
  refine z_go (Gr := Gr) (zc := zc n w) (K := 168) oV_Mo_give 9 (pc' := 34) (L' := [some (.ref 105), some (.int x1), some (.int x2)]) (st' := [.int x1, .ref 148, .long 1, .long ((x2 : Int32)).toInt64, .int x1, .ref 150]) rfl ?_
  refine z_iald (Gr := Gr) (c := 116) (oV_Mo_give.1 (34, .iaload) (ip_lk_mem rfl)) (by decide) rfl g0 ?_
  refine z_go (Gr := Gr) (zc := zc n w) (K := 168) oV_Mo_give 4 (pc' := 39) (L' := [some (.ref 105), some (.int x1), some (.int x2)]) (st' := [.long (((x2 : Int32)).toInt64 &&& ((1 <<< (((S.1 116 ((x1 : Int32).toNatClampNeg)) : Int32).toInt64 &&& 63)) - 1)), .int x1, .ref 150]) rfl ?_
  refine z_last (Gr := Gr) (c := 118) (oV_Mo_give.1 (39, .lastore) (ip_lk_mem rfl)) (by decide) (fun _ => rfl) g0 ?_
  refine z_go (Gr := Gr) (zc := zc n w) (K := 168) oV_Mo_give 2 (pc' := 42) (L' := [some (.ref 105), some (.int x1), some (.int x2)]) (st' := [.ref 105, .ref 105]) rfl ?_
  refine z_getI (Gr := Gr) (c := 73) (oV_Mo_give.1 (42, .getfield 777) (ip_lk_mem rfl)) (oV_Mo_give.2.1 (777, 12, 119, .boolean, false) (ip_lk_mem rfl)).1 (by decide) (zo_73 _ _ _ _) (zg_73_119 _ _ _ _) zj_1 ?_
  exact z_ifeq (Gr := Gr) (tgt := 59) (oV_Mo_give.1 (45, .ifCond .eq 14) (ip_lk_mem rfl)) (by decide) (fun q => (z_forget (k0 q) trivial)) (fun q => (z_forget (k1 q) (And.intro rfl trivial)))
set_option maxRecDepth 100000 in
theorem b_Mo_give_59 {l : Launch} {Gr : zG} {n w : Nat} {d : Nat} {S : zS} {Q : Option Value → zS → Prop}   (k0 : zW l Gr (zc n w) 168 M_Mo_give d 60 [none, none, none] [.int 0, .ref 105] S Q) : zW l Gr (zc n w) 168 M_Mo_give d 59 [none, none, none] [.ref 105] S Q := by
  refine z_go (Gr := Gr) (zc := zc n w) (K := 168) oV_Mo_give 1 (pc' := 60) (L' := [none, none, none]) (st' := [.int 0, .ref 105]) rfl ?_
  exact k0
set_option maxRecDepth 100000 in
theorem b_Mo_give_48 {l : Launch} {Gr : zG} {n w : Nat} {d : Nat} {S : zS} {Q : Option Value → zS → Prop}   (k0 : (S.1 73 124) = 0 → zW l Gr (zc n w) 168 M_Mo_give d 59 [none, none, none] [.ref 105] S Q) (k1 : ¬ (S.1 73 124) = 0 → zW l Gr (zc n w) 168 M_Mo_give d 55 [none, none, none] [.ref 105] S Q) : zW l Gr (zc n w) 168 M_Mo_give d 48 [some (.ref 105), none, none] [.ref 105] S Q := by
  refine z_go (Gr := Gr) (zc := zc n w) (K := 168) oV_Mo_give 2 (pc' := 52) (L' := [some (.ref 105), none, none]) (st' := [.int (S.1 73 124), .ref 105]) rfl ?_
  exact z_ifeq (Gr := Gr) (tgt := 59) (oV_Mo_give.1 (52, .ifCond .eq 7) (ip_lk_mem rfl)) (by decide) (fun q => (z_forget (k0 q) trivial)) (fun q => (z_forget (k1 q) trivial))
set_option maxRecDepth 100000 in
theorem b_Mo_give_60 {l : Launch} {Gr : zG} {n w : Nat} {d : Nat} {S : zS} {Q : Option Value → zS → Prop} {s0 : Int32} (g0 : fits .boolean (.int s0) = true) (k0 : Q (some (.int 1)) (zi S 73 119 s0)) : zW l Gr (zc n w) 168 M_Mo_give d 60 [none, none, none] [.int s0, .ref 105] S Q := by
  refine z_putI (Gr := Gr) (c := 73) (oV_Mo_give.1 (60, .putfield 777) (ip_lk_mem rfl)) (oV_Mo_give.2.1 (777, 12, 119, .boolean, false) (ip_lk_mem rfl)).1 (by decide) (zo_73 _ _ _ _) (zs_73_119 _ _ _ _ _) (zn_73_119 _ _ _ _) g0 ?_
  refine z_go (Gr := Gr) (zc := zc n w) (K := 168) oV_Mo_give 1 (pc' := 64) (L' := [none, none, none]) (st' := [.int 1]) rfl ?_
  exact z_ret (v := (some (.int 1))) (oV_Mo_give.1 (64, .ireturn) (ip_lk_mem rfl)) k0
set_option maxRecDepth 100000 in
theorem b_Mo_give_55 {l : Launch} {Gr : zG} {n w : Nat} {d : Nat} {S : zS} {Q : Option Value → zS → Prop}   (k0 : zW l Gr (zc n w) 168 M_Mo_give d 60 [none, none, none] [.int 1, .ref 105] S Q) : zW l Gr (zc n w) 168 M_Mo_give d 55 [none, none, none] [.ref 105] S Q := by
  refine z_go (Gr := Gr) (zc := zc n w) (K := 168) oV_Mo_give 2 (pc' := 60) (L' := [none, none, none]) (st' := [.int 1, .ref 105]) rfl ?_
  exact k0
theorem e_Mo_give {l : Launch} {Gr : zG} {n w : Nat} {d : Nat} {S : zS} {R : Int32 → zS → Prop} {x1 : Int32} {x2 : Int32} (k : zW l Gr (zc n w) 168 M_Mo_give d 0 [some (.ref 105), some (.int x1), some (.int x2)] [] S (fun v S' => ∃ x, v = some (.int x) ∧ (x = 0 ∨ x = 1) ∧ R x S')) : zMi l Gr (zc n w) 168 M_Mo_give d [.ref 105, .int x1, .int x2] S R := z_mb oM_Mo_give rfl (Nat.le_of_ble_eq_true rfl) k
set_option maxRecDepth 100000 in
theorem b_Mo_deliver_0 {l : Launch} {Gr : zG} {n w : Nat} {d : Nat} {S : zS} {Q : Option Value → zS → Prop} {x1 : Int32}  (k0 : x1 < 0 → zW l Gr (zc n w) 168 M_Mo_deliver (d + 1) 12 [none, none] [] S Q) (k1 : ¬ x1 < 0 → zW l Gr (zc n w) 168 M_Mo_deliver (d + 1) 4 [some (.ref 105), some (.int x1)] [] S Q) : zW l Gr (zc n w) 168 M_Mo_deliver (d + 1) 0 [some (.ref 105), some (.int x1)] [] S Q := by
  refine z_go (Gr := Gr) (zc := zc n w) (K := 168) oV_Mo_deliver 1 (pc' := 1) (L' := [some (.ref 105), some (.int x1)]) (st' := [.int x1]) rfl ?_
  exact z_iflt (Gr := Gr) (tgt := 12) (oV_Mo_deliver.1 (1, .ifCond .lt 11) (ip_lk_mem rfl)) (by decide) (fun q => (z_forget (k0 q) trivial)) (fun q => (k1 q))
set_option maxRecDepth 100000 in
theorem b_Mo_deliver_12 {l : Launch} {Gr : zG} {n w : Nat} {d : Nat} {S : zS} {Q : Option Value → zS → Prop}   (k0 : zW l Gr (zc n w) 168 M_Mo_deliver (d + 1) 21 [none, none] [.int (-1)] S Q) : zW l Gr (zc n w) 168 M_Mo_deliver (d + 1) 12 [none, none] [] S Q := by
  refine z_go (Gr := Gr) (zc := zc n w) (K := 168) oV_Mo_deliver 2 (pc' := 21) (L' := [none, none]) (st' := [.int (-1)]) rfl ?_
  exact k0
set_option maxRecDepth 100000 in
theorem b_Mo_deliver_4 {l : Launch} {Gr : zG} {n w : Nat} {d : Nat} {S : zS} {Q : Option Value → zS → Prop} {x1 : Int32}  (k0 : x1 < (S.1 73 139) → zW l Gr (zc n w) 168 M_Mo_deliver (d + 1) 16 [some (.ref 105), some (.int x1)] [] S Q) (k1 : ¬ x1 < (S.1 73 139) → zW l Gr (zc n w) 168 M_Mo_deliver (d + 1) 12 [none, none] [] S Q) : zW l Gr (zc n w) 168 M_Mo_deliver (d + 1) 4 [some (.ref 105), some (.int x1)] [] S Q := by
  refine z_go (Gr := Gr) (zc := zc n w) (K := 168) oV_Mo_deliver 3 (pc' := 9) (L' := [some (.ref 105), some (.int x1)]) (st' := [.int (S.1 73 139), .int x1]) rfl ?_
  exact z_iclt (Gr := Gr) (tgt := 16) (oV_Mo_deliver.1 (9, .if_icmp .lt 7) (ip_lk_mem rfl)) (by decide) (fun q => (k0 q)) (fun q => (z_forget (k1 q) trivial))
set_option maxRecDepth 100000 in
theorem b_Mo_deliver_21 {l : Launch} {Gr : zG} {n w : Nat} {d : Nat} {S : zS} {Q : Option Value → zS → Prop} {s0 : Int32}  (k0 : Q (some (.int s0)) S) : zW l Gr (zc n w) 168 M_Mo_deliver (d + 1) 21 [none, none] [.int s0] S Q := by
  exact z_ret (v := (some (.int s0))) (oV_Mo_deliver.1 (21, .ireturn) (ip_lk_mem rfl)) k0
set_option maxRecDepth 100000 in
theorem b_Mo_deliver_16 {l : Launch} {Gr : zG} {n w : Nat} {d : Nat} {S : zS} {Q : Option Value → zS → Prop} {R : Int32 → zS → Prop} (hg : ip_gk (lg_tbl, vwCl, Gr)) {x1 : Int32}  (k0 : zMi l Gr (zc n w) 168 M_Mo_takeMessage d [.ref 105, .int x1] S R) (k1 : ∀ v S', R v S' → zW l Gr (zc n w) 168 M_Mo_deliver (d + 1) 21 [none, none] [.int v] S' Q) : zW l Gr (zc n w) 168 M_Mo_deliver (d + 1) 16 [some (.ref 105), some (.int x1)] [] S Q := by
  refine z_go (Gr := Gr) (zc := zc n w) (K := 168) oV_Mo_deliver 2 (pc' := 18) (L' := [some (.ref 105), some (.int x1)]) (st' := [.int x1, .ref 105]) rfl ?_
  exact z_callV (Gr := Gr) hg.2.2.1 fT oM_Mo_takeMessage (oV_Mo_deliver.1 (18, .invokevirtual 863) (ip_lk_mem rfl)) ⟨tt_11 _ (List.mem_of_getElem? (i := 19) rfl) rfl, tt_11 _ (List.mem_of_getElem? (i := 21) rfl) rfl, fS_Mo_takeMessage⟩ (c := 73) (ci := 12) (As := [.int x1]) rfl rfl rfl (by decide) rfl (Nat.le_of_ble_eq_true rfl) k0 (fun v S' q => by obtain ⟨x, rfl, q⟩ := q; exact (z_forget (k1 _ _ q) trivial))
theorem e_Mo_deliver {l : Launch} {Gr : zG} {n w : Nat} {d : Nat} {S : zS} {R : Int32 → zS → Prop} {x1 : Int32} (k : zW l Gr (zc n w) 168 M_Mo_deliver (d + 1) 0 [some (.ref 105), some (.int x1)] [] S (fun v S' => ∃ x, v = some (.int x) ∧ R x S')) : zMi l Gr (zc n w) 168 M_Mo_deliver (d + 1) [.ref 105, .int x1] S R := z_mi oM_Mo_deliver rfl (Nat.le_of_ble_eq_true rfl) k
set_option maxRecDepth 100000 in
theorem b_Mo_message_0 {l : Launch} {Gr : zG} {n w : Nat} {d : Nat} {S : zS} {Q : Option Value → zS → Prop} {x1 : Int32} {x2 : Int32}  (k0 : x1 < 0 → zW l Gr (zc n w) 168 M_Mo_message (d + 1) 16 [none, none, none, none] [] S Q) (k1 : ¬ x1 < 0 → zW l Gr (zc n w) 168 M_Mo_message (d + 1) 4 [some (.ref 105), some (.int x1), some (.int x2), none] [] S Q) : zW l Gr (zc n w) 168 M_Mo_message (d + 1) 0 [some (.ref 105), some (.int x1), some (.int x2), none] [] S Q := by
  refine z_go (Gr := Gr) (zc := zc n w) (K := 168) oV_Mo_message 1 (pc' := 1) (L' := [some (.ref 105), some (.int x1), some (.int x2), none]) (st' := [.int x1]) rfl ?_
  exact z_iflt (Gr := Gr) (tgt := 16) (oV_Mo_message.1 (1, .ifCond .lt 15) (ip_lk_mem rfl)) (by decide) (fun q => (z_forget (k0 q) trivial)) (fun q => (k1 q))
set_option maxRecDepth 100000 in
theorem b_Mo_message_16 {l : Launch} {Gr : zG} {n w : Nat} {d : Nat} {S : zS} {Q : Option Value → zS → Prop}   (k0 : Q (some (.int (-1))) S) : zW l Gr (zc n w) 168 M_Mo_message (d + 1) 16 [none, none, none, none] [] S Q := by
  refine z_go (Gr := Gr) (zc := zc n w) (K := 168) oV_Mo_message 1 (pc' := 17) (L' := [none, none, none, none]) (st' := [.int (-1)]) rfl ?_
  exact z_ret (v := (some (.int (-1)))) (oV_Mo_message.1 (17, .ireturn) (ip_lk_mem rfl)) k0
set_option maxRecDepth 100000 in
theorem b_Mo_message_4 {l : Launch} {Gr : zG} {n w : Nat} {d : Nat} {S : zS} {Q : Option Value → zS → Prop} {x1 : Int32} {x2 : Int32}  (k0 : (S.1 73 139) ≤ x1 → zW l Gr (zc n w) 168 M_Mo_message (d + 1) 16 [none, none, none, none] [] S Q) (k1 : ¬ (S.1 73 139) ≤ x1 → zW l Gr (zc n w) 168 M_Mo_message (d + 1) 12 [some (.ref 105), some (.int x1), some (.int x2), none] [] S Q) : zW l Gr (zc n w) 168 M_Mo_message (d + 1) 4 [some (.ref 105), some (.int x1), some (.int x2), none] [] S Q := by
  refine z_go (Gr := Gr) (zc := zc n w) (K := 168) oV_Mo_message 3 (pc' := 9) (L' := [some (.ref 105), some (.int x1), some (.int x2), none]) (st' := [.int (S.1 73 139), .int x1]) rfl ?_
  exact z_icge (Gr := Gr) (tgt := 16) (oV_Mo_message.1 (9, .if_icmp .ge 7) (ip_lk_mem rfl)) (by decide) (fun q => (z_forget (k0 q) trivial)) (fun q => (k1 q))
set_option maxRecDepth 100000 in
theorem b_Mo_message_12 {l : Launch} {Gr : zG} {n w : Nat} {d : Nat} {S : zS} {Q : Option Value → zS → Prop} {x1 : Int32} {x2 : Int32}  (k0 : 0 ≤ x2 → zW l Gr (zc n w) 168 M_Mo_message (d + 1) 18 [some (.ref 105), some (.int x1), some (.int x2), none] [] S Q) (k1 : ¬ 0 ≤ x2 → zW l Gr (zc n w) 168 M_Mo_message (d + 1) 16 [none, none, none, none] [] S Q) : zW l Gr (zc n w) 168 M_Mo_message (d + 1) 12 [some (.ref 105), some (.int x1), some (.int x2), none] [] S Q := by
  refine z_go (Gr := Gr) (zc := zc n w) (K := 168) oV_Mo_message 1 (pc' := 13) (L' := [some (.ref 105), some (.int x1), some (.int x2), none]) (st' := [.int x2]) rfl ?_
  exact z_ifge (Gr := Gr) (tgt := 18) (oV_Mo_message.1 (13, .ifCond .ge 5) (ip_lk_mem rfl)) (by decide) (fun q => (k0 q)) (fun q => (z_forget (k1 q) trivial))
set_option maxRecDepth 100000 in
theorem b_Mo_message_18 {l : Launch} {Gr : zG} {n w : Nat} {d : Nat} {S : zS} {Q : Option Value → zS → Prop} {R : Int32 → zS → Prop} (hg : ip_gk (lg_tbl, vwCl, Gr)) {x1 : Int32} {x2 : Int32} (g0 : vp_in x1 1000) (k0 : zMi l Gr (zc n w) 168 M_Mo_lengthOf d [.ref 105, .int (S.1 164 ((x1 : Int32).toNatClampNeg)), .int (S.1 166 ((x1 : Int32).toNatClampNeg))] S R) (k1 : ∀ v S', R v S' → zW l Gr (zc n w) 168 M_Mo_message (d + 1) 34 [some (.ref 105), some (.int x1), some (.int x2), none] [.int v] S' Q) : zW l Gr (zc n w) 168 M_Mo_message (d + 1) 18 [some (.ref 105), some (.int x1), some (.int x2), none] [] S Q := by
  refine z_go (Gr := Gr) (zc := zc n w) (K := 168) oV_Mo_message 4 (pc' := 24) (L' := [some (.ref 105), some (.int x1), some (.int x2), none]) (st' := [.int x1, .ref 196, .ref 105]) rfl ?_
  refine z_iald (Gr := Gr) (c := 164) (oV_Mo_message.1 (24, .iaload) (ip_lk_mem rfl)) (by decide) rfl g0 ?_
  refine z_go (Gr := Gr) (zc := zc n w) (K := 168) oV_Mo_message 3 (pc' := 30) (L' := [some (.ref 105), some (.int x1), some (.int x2), none]) (st' := [.int x1, .ref 198, .int (S.1 164 ((x1 : Int32).toNatClampNeg)), .ref 105]) rfl ?_
  refine z_iald (Gr := Gr) (c := 166) (oV_Mo_message.1 (30, .iaload) (ip_lk_mem rfl)) (by decide) rfl g0 ?_
  exact z_callV (Gr := Gr) hg.2.2.1 fT oM_Mo_lengthOf (oV_Mo_message.1 (31, .invokevirtual 827) (ip_lk_mem rfl)) ⟨tt_11 _ (List.mem_of_getElem? (i := 7) rfl) rfl, tt_11 _ (List.mem_of_getElem? (i := 9) rfl) rfl, fS_Mo_lengthOf⟩ (c := 73) (ci := 12) (As := [.int (S.1 164 ((x1 : Int32).toNatClampNeg)), .int (S.1 166 ((x1 : Int32).toNatClampNeg))]) rfl rfl rfl (by decide) rfl (Nat.le_of_ble_eq_true rfl) k0 (fun v S' q => by obtain ⟨x, rfl, q⟩ := q; exact (k1 _ _ q))
set_option maxRecDepth 100000 in
theorem b_Mo_message_34 {l : Launch} {Gr : zG} {n w : Nat} {d : Nat} {S : zS} {Q : Option Value → zS → Prop} {x1 : Int32} {x2 : Int32} {s0 : Int32}  (k0 : 4 ≤ x2 → zW l Gr (zc n w) 168 M_Mo_message (d + 1) 83 [some (.ref 105), some (.int x1), some (.int x2), some (.int s0)] [] S Q) (k1 : ¬ 4 ≤ x2 → zW l Gr (zc n w) 168 M_Mo_message (d + 1) 40 [some (.ref 105), some (.int x1), some (.int x2), some (.int s0)] [] S Q) : zW l Gr (zc n w) 168 M_Mo_message (d + 1) 34 [some (.ref 105), some (.int x1), some (.int x2), none] [.int s0] S Q := by
  refine z_go (Gr := Gr) (zc := zc n w) (K := 168) oV_Mo_message 3 (pc' := 37) (L' := [some (.ref 105), some (.int x1), some (.int x2), some (.int s0)]) (st' := [.int 4, .int x2]) rfl ?_
  exact z_icge (Gr := Gr) (tgt := 83) (oV_Mo_message.1 (37, .if_icmp .ge 46) (ip_lk_mem rfl)) (by decide) (fun q => (k0 q)) (fun q => (k1 q))
set_option maxRecDepth 100000 in
theorem b_Mo_message_83 {l : Launch} {Gr : zG} {n w : Nat} {d : Nat} {S : zS} {Q : Option Value → zS → Prop} {x1 : Int32} {x2 : Int32} {x3 : Int32}  (k0 : x3 ≤ (x2 - 4) → zW l Gr (zc n w) 168 M_Mo_message (d + 1) 118 [none, none, none, none] [] S Q) (k1 : ¬ x3 ≤ (x2 - 4) → zW l Gr (zc n w) 168 M_Mo_message (d + 1) 90 [some (.ref 105), some (.int x1), some (.int x2), none] [] S Q) : zW l Gr (zc n w) 168 M_Mo_message (d + 1) 83 [some (.ref 105), some (.int x1), some (.int x2), some (.int x3)] [] S Q := by
  refine z_go (Gr := Gr) (zc := zc n w) (K := 168) oV_Mo_message 4 (pc' := 87) (L' := [some (.ref 105), some (.int x1), some (.int x2), some (.int x3)]) (st' := [.int x3, .int (x2 - 4)]) rfl ?_
  exact z_icge (Gr := Gr) (tgt := 118) (oV_Mo_message.1 (87, .if_icmp .ge 31) (ip_lk_mem rfl)) (by decide) (fun q => (z_forget (k0 q) trivial)) (fun q => (z_forget (k1 q) (And.intro rfl (And.intro rfl (And.intro rfl trivial)))))
set_option maxRecDepth 100000 in
theorem b_Mo_message_40 {l : Launch} {Gr : zG} {n w : Nat} {d : Nat} {S : zS} {Q : Option Value → zS → Prop} {x1 : Int32} {x2 : Int32} {x3 : Int32}  (k0 : ¬ x2 = 0 → zW l Gr (zc n w) 168 M_Mo_message (d + 1) 53 [some (.ref 105), some (.int x1), some (.int x2), some (.int x3)] [] S Q) (k1 : x2 = 0 → zW l Gr (zc n w) 168 M_Mo_message (d + 1) 44 [some (.ref 105), some (.int x1), none, none] [] S Q) : zW l Gr (zc n w) 168 M_Mo_message (d + 1) 40 [some (.ref 105), some (.int x1), some (.int x2), some (.int x3)] [] S Q := by
  refine z_go (Gr := Gr) (zc := zc n w) (K := 168) oV_Mo_message 1 (pc' := 41) (L' := [some (.ref 105), some (.int x1), some (.int x2), some (.int x3)]) (st' := [.int x2]) rfl ?_
  exact z_ifne (Gr := Gr) (tgt := 53) (oV_Mo_message.1 (41, .ifCond .ne 12) (ip_lk_mem rfl)) (by decide) (fun q => (k0 q)) (fun q => (z_forget (k1 q) (And.intro rfl (And.intro rfl trivial))))
set_option maxRecDepth 100000 in
theorem b_Mo_message_118 {l : Launch} {Gr : zG} {n w : Nat} {d : Nat} {S : zS} {Q : Option Value → zS → Prop}   (k0 : zW l Gr (zc n w) 168 M_Mo_message (d + 1) 119 [none, none, none, none] [.int (-1)] S Q) : zW l Gr (zc n w) 168 M_Mo_message (d + 1) 118 [none, none, none, none] [] S Q := by
  refine z_go (Gr := Gr) (zc := zc n w) (K := 168) oV_Mo_message 1 (pc' := 119) (L' := [none, none, none, none]) (st' := [.int (-1)]) rfl ?_
  exact k0
set_option maxRecDepth 100000 in
theorem b_Mo_message_90 {l : Launch} {Gr : zG} {n w : Nat} {d : Nat} {S : zS} {Q : Option Value → zS → Prop} {R : Int32 → zS → Prop} (hg : ip_gk (lg_tbl, vwCl, Gr)) {x1 : Int32} {x2 : Int32} (g0 : vp_in x1 1000) (k0 : zMi l Gr (zc n w) 168 M_Mo_sentBit d [.ref 105, .int (S.1 164 ((x1 : Int32).toNatClampNeg)), .int (S.1 165 ((x1 : Int32).toNatClampNeg)), .int (S.1 166 ((x1 : Int32).toNatClampNeg)), .int (x2 - 4)] S R) (k1 : ∀ v S', R v S' → zW l Gr (zc n w) 168 M_Mo_message (d + 1) 115 [none, none, none, none] [.int v] S' Q) : zW l Gr (zc n w) 168 M_Mo_message (d + 1) 90 [some (.ref 105), some (.int x1), some (.int x2), none] [] S Q := by
  refine z_go (Gr := Gr) (zc := zc n w) (K := 168) oV_Mo_message 4 (pc' := 96) (L' := [some (.ref 105), some (.int x1), some (.int x2), none]) (st' := [.int x1, .ref 196, .ref 105]) rfl ?_
  refine z_iald (Gr := Gr) (c := 164) (oV_Mo_message.1 (96, .iaload) (ip_lk_mem rfl)) (by decide) rfl g0 ?_
  refine z_go (Gr := Gr) (zc := zc n w) (K := 168) oV_Mo_message 3 (pc' := 102) (L' := [some (.ref 105), some (.int x1), some (.int x2), none]) (st' := [.int x1, .ref 197, .int (S.1 164 ((x1 : Int32).toNatClampNeg)), .ref 105]) rfl ?_
  refine z_iald (Gr := Gr) (c := 165) (oV_Mo_message.1 (102, .iaload) (ip_lk_mem rfl)) (by decide) rfl g0 ?_
  refine z_go (Gr := Gr) (zc := zc n w) (K := 168) oV_Mo_message 3 (pc' := 108) (L' := [some (.ref 105), some (.int x1), some (.int x2), none]) (st' := [.int x1, .ref 198, .int (S.1 165 ((x1 : Int32).toNatClampNeg)), .int (S.1 164 ((x1 : Int32).toNatClampNeg)), .ref 105]) rfl ?_
  refine z_iald (Gr := Gr) (c := 166) (oV_Mo_message.1 (108, .iaload) (ip_lk_mem rfl)) (by decide) rfl g0 ?_
  refine z_go (Gr := Gr) (zc := zc n w) (K := 168) oV_Mo_message 3 (pc' := 112) (L' := [some (.ref 105), some (.int x1), some (.int x2), none]) (st' := [.int (x2 - 4), .int (S.1 166 ((x1 : Int32).toNatClampNeg)), .int (S.1 165 ((x1 : Int32).toNatClampNeg)), .int (S.1 164 ((x1 : Int32).toNatClampNeg)), .ref 105]) rfl ?_
  exact z_callV (Gr := Gr) hg.2.2.1 fT oM_Mo_sentBit (oV_Mo_message.1 (112, .invokevirtual 860) (ip_lk_mem rfl)) ⟨tt_11 _ (List.mem_of_getElem? (i := 11) rfl) rfl, tt_11 _ (List.mem_of_getElem? (i := 13) rfl) rfl, fS_Mo_sentBit⟩ (c := 73) (ci := 12) (As := [.int (S.1 164 ((x1 : Int32).toNatClampNeg)), .int (S.1 165 ((x1 : Int32).toNatClampNeg)), .int (S.1 166 ((x1 : Int32).toNatClampNeg)), .int (x2 - 4)]) rfl rfl rfl (by decide) rfl (Nat.le_of_ble_eq_true rfl) k0 (fun v S' q => by obtain ⟨x, rfl, q⟩ := q; exact (z_forget (k1 _ _ q) trivial))
set_option maxRecDepth 100000 in
theorem b_Mo_message_53 {l : Launch} {Gr : zG} {n w : Nat} {d : Nat} {S : zS} {Q : Option Value → zS → Prop} {x1 : Int32} {x2 : Int32} {x3 : Int32}  (k0 : ¬ x2 = 1 → zW l Gr (zc n w) 168 M_Mo_message (d + 1) 67 [some (.ref 105), some (.int x1), some (.int x2), some (.int x3)] [] S Q) (k1 : x2 = 1 → zW l Gr (zc n w) 168 M_Mo_message (d + 1) 58 [some (.ref 105), some (.int x1), none, none] [] S Q) : zW l Gr (zc n w) 168 M_Mo_message (d + 1) 53 [some (.ref 105), some (.int x1), some (.int x2), some (.int x3)] [] S Q := by
  refine z_go (Gr := Gr) (zc := zc n w) (K := 168) oV_Mo_message 2 (pc' := 55) (L' := [some (.ref 105), some (.int x1), some (.int x2), some (.int x3)]) (st' := [.int 1, .int x2]) rfl ?_
  exact z_icne (Gr := Gr) (tgt := 67) (oV_Mo_message.1 (55, .if_icmp .ne 12) (ip_lk_mem rfl)) (by decide) (fun q => (k0 q)) (fun q => (z_forget (k1 q) (And.intro rfl (And.intro rfl trivial))))
set_option maxRecDepth 100000 in
theorem b_Mo_message_44 {l : Launch} {Gr : zG} {n w : Nat} {d : Nat} {S : zS} {Q : Option Value → zS → Prop} {x1 : Int32} (g0 : vp_in x1 1000) (k0 : zW l Gr (zc n w) 168 M_Mo_message (d + 1) 82 [none, none, none, none] [.int (S.1 164 ((x1 : Int32).toNatClampNeg))] S Q) : zW l Gr (zc n w) 168 M_Mo_message (d + 1) 44 [some (.ref 105), some (.int x1), none, none] [] S Q := by
  refine z_go (Gr := Gr) (zc := zc n w) (K := 168) oV_Mo_message 3 (pc' := 49) (L' := [some (.ref 105), some (.int x1), none, none]) (st' := [.int x1, .ref 196]) rfl ?_
  refine z_iald (Gr := Gr) (c := 164) (oV_Mo_message.1 (49, .iaload) (ip_lk_mem rfl)) (by decide) rfl g0 ?_
  refine z_go (Gr := Gr) (zc := zc n w) (K := 168) oV_Mo_message 1 (pc' := 82) (L' := [some (.ref 105), some (.int x1), none, none]) (st' := [.int (S.1 164 ((x1 : Int32).toNatClampNeg))]) rfl ?_
  exact (z_forget k0 trivial)
set_option maxRecDepth 100000 in
theorem b_Mo_message_119 {l : Launch} {Gr : zG} {n w : Nat} {d : Nat} {S : zS} {Q : Option Value → zS → Prop} {s0 : Int32}  (k0 : Q (some (.int s0)) S) : zW l Gr (zc n w) 168 M_Mo_message (d + 1) 119 [none, none, none, none] [.int s0] S Q := by
  exact z_ret (v := (some (.int s0))) (oV_Mo_message.1 (119, .ireturn) (ip_lk_mem rfl)) k0
set_option maxRecDepth 100000 in
theorem b_Mo_message_115 {l : Launch} {Gr : zG} {n w : Nat} {d : Nat} {S : zS} {Q : Option Value → zS → Prop} {s0 : Int32}  (k0 : zW l Gr (zc n w) 168 M_Mo_message (d + 1) 119 [none, none, none, none] [.int s0] S Q) : zW l Gr (zc n w) 168 M_Mo_message (d + 1) 115 [none, none, none, none] [.int s0] S Q := by
  refine z_go (Gr := Gr) (zc := zc n w) (K := 168) oV_Mo_message 1 (pc' := 119) (L' := [none, none, none, none]) (st' := [.int s0]) rfl ?_
  exact k0
set_option maxRecDepth 100000 in
theorem b_Mo_message_67 {l : Launch} {Gr : zG} {n w : Nat} {d : Nat} {S : zS} {Q : Option Value → zS → Prop} {x1 : Int32} {x2 : Int32} {x3 : Int32}  (k0 : ¬ x2 = 2 → zW l Gr (zc n w) 168 M_Mo_message (d + 1) 81 [none, none, none, some (.int x3)] [] S Q) (k1 : x2 = 2 → zW l Gr (zc n w) 168 M_Mo_message (d + 1) 72 [some (.ref 105), some (.int x1), none, none] [] S Q) : zW l Gr (zc n w) 168 M_Mo_message (d + 1) 67 [some (.ref 105), some (.int x1), some (.int x2), some (.int x3)] [] S Q := by
  refine z_go (Gr := Gr) (zc := zc n w) (K := 168) oV_Mo_message 2 (pc' := 69) (L' := [some (.ref 105), some (.int x1), some (.int x2), some (.int x3)]) (st' := [.int 2, .int x2]) rfl ?_
  exact z_icne (Gr := Gr) (tgt := 81) (oV_Mo_message.1 (69, .if_icmp .ne 12) (ip_lk_mem rfl)) (by decide) (fun q => (z_forget (k0 q) (And.intro rfl trivial))) (fun q => (z_forget (k1 q) (And.intro rfl (And.intro rfl trivial))))
set_option maxRecDepth 100000 in
theorem b_Mo_message_58 {l : Launch} {Gr : zG} {n w : Nat} {d : Nat} {S : zS} {Q : Option Value → zS → Prop} {x1 : Int32} (g0 : vp_in x1 1000) (k0 : zW l Gr (zc n w) 168 M_Mo_message (d + 1) 82 [none, none, none, none] [.int (S.1 165 ((x1 : Int32).toNatClampNeg))] S Q) : zW l Gr (zc n w) 168 M_Mo_message (d + 1) 58 [some (.ref 105), some (.int x1), none, none] [] S Q := by
  refine z_go (Gr := Gr) (zc := zc n w) (K := 168) oV_Mo_message 3 (pc' := 63) (L' := [some (.ref 105), some (.int x1), none, none]) (st' := [.int x1, .ref 197]) rfl ?_
  refine z_iald (Gr := Gr) (c := 165) (oV_Mo_message.1 (63, .iaload) (ip_lk_mem rfl)) (by decide) rfl g0 ?_
  refine z_go (Gr := Gr) (zc := zc n w) (K := 168) oV_Mo_message 1 (pc' := 82) (L' := [some (.ref 105), some (.int x1), none, none]) (st' := [.int (S.1 165 ((x1 : Int32).toNatClampNeg))]) rfl ?_
  exact (z_forget k0 trivial)
set_option maxRecDepth 100000 in
theorem b_Mo_message_82 {l : Launch} {Gr : zG} {n w : Nat} {d : Nat} {S : zS} {Q : Option Value → zS → Prop} {s0 : Int32}  (k0 : Q (some (.int s0)) S) : zW l Gr (zc n w) 168 M_Mo_message (d + 1) 82 [none, none, none, none] [.int s0] S Q := by
  exact z_ret (v := (some (.int s0))) (oV_Mo_message.1 (82, .ireturn) (ip_lk_mem rfl)) k0
set_option maxRecDepth 100000 in
theorem b_Mo_message_81 {l : Launch} {Gr : zG} {n w : Nat} {d : Nat} {S : zS} {Q : Option Value → zS → Prop} {x3 : Int32}  (k0 : zW l Gr (zc n w) 168 M_Mo_message (d + 1) 82 [none, none, none, none] [.int x3] S Q) : zW l Gr (zc n w) 168 M_Mo_message (d + 1) 81 [none, none, none, some (.int x3)] [] S Q := by
  refine z_go (Gr := Gr) (zc := zc n w) (K := 168) oV_Mo_message 1 (pc' := 82) (L' := [none, none, none, some (.int x3)]) (st' := [.int x3]) rfl ?_
  exact (z_forget k0 trivial)
set_option maxRecDepth 100000 in
theorem b_Mo_message_72 {l : Launch} {Gr : zG} {n w : Nat} {d : Nat} {S : zS} {Q : Option Value → zS → Prop} {x1 : Int32} (g0 : vp_in x1 1000) (k0 : zW l Gr (zc n w) 168 M_Mo_message (d + 1) 82 [none, none, none, none] [.int (S.1 166 ((x1 : Int32).toNatClampNeg))] S Q) : zW l Gr (zc n w) 168 M_Mo_message (d + 1) 72 [some (.ref 105), some (.int x1), none, none] [] S Q := by
  refine z_go (Gr := Gr) (zc := zc n w) (K := 168) oV_Mo_message 3 (pc' := 77) (L' := [some (.ref 105), some (.int x1), none, none]) (st' := [.int x1, .ref 198]) rfl ?_
  refine z_iald (Gr := Gr) (c := 166) (oV_Mo_message.1 (77, .iaload) (ip_lk_mem rfl)) (by decide) rfl g0 ?_
  refine z_go (Gr := Gr) (zc := zc n w) (K := 168) oV_Mo_message 1 (pc' := 82) (L' := [some (.ref 105), some (.int x1), none, none]) (st' := [.int (S.1 166 ((x1 : Int32).toNatClampNeg))]) rfl ?_
  exact (z_forget k0 trivial)
theorem e_Mo_message {l : Launch} {Gr : zG} {n w : Nat} {d : Nat} {S : zS} {R : Int32 → zS → Prop} {x1 : Int32} {x2 : Int32} (k : zW l Gr (zc n w) 168 M_Mo_message (d + 1) 0 [some (.ref 105), some (.int x1), some (.int x2), none] [] S (fun v S' => ∃ x, v = some (.int x) ∧ R x S')) : zMi l Gr (zc n w) 168 M_Mo_message (d + 1) [.ref 105, .int x1, .int x2] S R := z_mi oM_Mo_message rfl (Nat.le_of_ble_eq_true rfl) k
set_option maxRecDepth 100000 in
theorem b_Mo_party_0 {l : Launch} {Gr : zG} {n w : Nat} {d : Nat} {S : zS} {Q : Option Value → zS → Prop} {x1 : Int32} {x2 : Int32}  (k0 : (S.1 73 124) = 0 → zW l Gr (zc n w) 168 M_Mo_party (d + 1) 28 [none, none, none] [] S Q) (k1 : ¬ (S.1 73 124) = 0 → zW l Gr (zc n w) 168 M_Mo_party (d + 1) 7 [some (.ref 105), some (.int x1), some (.int x2)] [] S Q) : zW l Gr (zc n w) 168 M_Mo_party (d + 1) 0 [some (.ref 105), some (.int x1), some (.int x2)] [] S Q := by
  refine z_go (Gr := Gr) (zc := zc n w) (K := 168) oV_Mo_party 2 (pc' := 4) (L' := [some (.ref 105), some (.int x1), some (.int x2)]) (st' := [.int (S.1 73 124)]) rfl ?_
  exact z_ifeq (Gr := Gr) (tgt := 28) (oV_Mo_party.1 (4, .ifCond .eq 24) (ip_lk_mem rfl)) (by decide) (fun q => (z_forget (k0 q) trivial)) (fun q => (k1 q))
set_option maxRecDepth 100000 in
theorem b_Mo_party_28 {l : Launch} {Gr : zG} {n w : Nat} {d : Nat} {S : zS} {Q : Option Value → zS → Prop}   (k0 : Q (some (.int (-1))) S) : zW l Gr (zc n w) 168 M_Mo_party (d + 1) 28 [none, none, none] [] S Q := by
  refine z_go (Gr := Gr) (zc := zc n w) (K := 168) oV_Mo_party 1 (pc' := 29) (L' := [none, none, none]) (st' := [.int (-1)]) rfl ?_
  exact z_ret (v := (some (.int (-1)))) (oV_Mo_party.1 (29, .ireturn) (ip_lk_mem rfl)) k0
set_option maxRecDepth 100000 in
theorem b_Mo_party_7 {l : Launch} {Gr : zG} {n w : Nat} {d : Nat} {S : zS} {Q : Option Value → zS → Prop} {x1 : Int32} {x2 : Int32}  (k0 : x1 < 0 → zW l Gr (zc n w) 168 M_Mo_party (d + 1) 28 [none, none, none] [] S Q) (k1 : ¬ x1 < 0 → zW l Gr (zc n w) 168 M_Mo_party (d + 1) 11 [some (.ref 105), some (.int x1), some (.int x2)] [] S Q) : zW l Gr (zc n w) 168 M_Mo_party (d + 1) 7 [some (.ref 105), some (.int x1), some (.int x2)] [] S Q := by
  refine z_go (Gr := Gr) (zc := zc n w) (K := 168) oV_Mo_party 1 (pc' := 8) (L' := [some (.ref 105), some (.int x1), some (.int x2)]) (st' := [.int x1]) rfl ?_
  exact z_iflt (Gr := Gr) (tgt := 28) (oV_Mo_party.1 (8, .ifCond .lt 20) (ip_lk_mem rfl)) (by decide) (fun q => (z_forget (k0 q) trivial)) (fun q => (k1 q))
set_option maxRecDepth 100000 in
theorem b_Mo_party_11 {l : Launch} {Gr : zG} {n w : Nat} {d : Nat} {S : zS} {Q : Option Value → zS → Prop} {x1 : Int32} {x2 : Int32}  (k0 : (nI n) ≤ x1 → zW l Gr (zc n w) 168 M_Mo_party (d + 1) 28 [none, none, none] [] S Q) (k1 : ¬ (nI n) ≤ x1 → zW l Gr (zc n w) 168 M_Mo_party (d + 1) 19 [some (.ref 105), some (.int x1), some (.int x2)] [] S Q) : zW l Gr (zc n w) 168 M_Mo_party (d + 1) 11 [some (.ref 105), some (.int x1), some (.int x2)] [] S Q := by
  refine z_go (Gr := Gr) (zc := zc n w) (K := 168) oV_Mo_party 3 (pc' := 16) (L' := [some (.ref 105), some (.int x1), some (.int x2)]) (st' := [.int (nI n), .int x1]) rfl ?_
  exact z_icge (Gr := Gr) (tgt := 28) (oV_Mo_party.1 (16, .if_icmp .ge 12) (ip_lk_mem rfl)) (by decide) (fun q => (z_forget (k0 q) trivial)) (fun q => (k1 q))
set_option maxRecDepth 100000 in
theorem b_Mo_party_19 {l : Launch} {Gr : zG} {n w : Nat} {d : Nat} {S : zS} {Q : Option Value → zS → Prop} {x1 : Int32} {x2 : Int32}  (k0 : x2 < 0 → zW l Gr (zc n w) 168 M_Mo_party (d + 1) 28 [none, none, none] [] S Q) (k1 : ¬ x2 < 0 → zW l Gr (zc n w) 168 M_Mo_party (d + 1) 23 [some (.ref 105), some (.int x1), some (.int x2)] [] S Q) : zW l Gr (zc n w) 168 M_Mo_party (d + 1) 19 [some (.ref 105), some (.int x1), some (.int x2)] [] S Q := by
  refine z_go (Gr := Gr) (zc := zc n w) (K := 168) oV_Mo_party 1 (pc' := 20) (L' := [some (.ref 105), some (.int x1), some (.int x2)]) (st' := [.int x2]) rfl ?_
  exact z_iflt (Gr := Gr) (tgt := 28) (oV_Mo_party.1 (20, .ifCond .lt 8) (ip_lk_mem rfl)) (by decide) (fun q => (z_forget (k0 q) trivial)) (fun q => (k1 q))
set_option maxRecDepth 100000 in
theorem b_Mo_party_23 {l : Launch} {Gr : zG} {n w : Nat} {d : Nat} {S : zS} {Q : Option Value → zS → Prop} {x1 : Int32} {x2 : Int32}  (k0 : x2 ≤ 2 → zW l Gr (zc n w) 168 M_Mo_party (d + 1) 30 [some (.ref 105), some (.int x1), some (.int x2)] [] S Q) (k1 : ¬ x2 ≤ 2 → zW l Gr (zc n w) 168 M_Mo_party (d + 1) 28 [none, none, none] [] S Q) : zW l Gr (zc n w) 168 M_Mo_party (d + 1) 23 [some (.ref 105), some (.int x1), some (.int x2)] [] S Q := by
  refine z_go (Gr := Gr) (zc := zc n w) (K := 168) oV_Mo_party 2 (pc' := 25) (L' := [some (.ref 105), some (.int x1), some (.int x2)]) (st' := [.int 2, .int x2]) rfl ?_
  exact z_icle (Gr := Gr) (tgt := 30) (oV_Mo_party.1 (25, .if_icmp .le 5) (ip_lk_mem rfl)) (by decide) (fun q => (k0 q)) (fun q => (z_forget (k1 q) trivial))
set_option maxRecDepth 100000 in
theorem b_Mo_party_30 {l : Launch} {Gr : zG} {n w : Nat} {d : Nat} {S : zS} {Q : Option Value → zS → Prop} {x1 : Int32} {x2 : Int32}  (k0 : ¬ x2 = 0 → zW l Gr (zc n w) 168 M_Mo_party (d + 1) 43 [some (.ref 105), some (.int x1), some (.int x2)] [] S Q) (k1 : x2 = 0 → zW l Gr (zc n w) 168 M_Mo_party (d + 1) 34 [some (.ref 105), some (.int x1), none] [] S Q) : zW l Gr (zc n w) 168 M_Mo_party (d + 1) 30 [some (.ref 105), some (.int x1), some (.int x2)] [] S Q := by
  refine z_go (Gr := Gr) (zc := zc n w) (K := 168) oV_Mo_party 1 (pc' := 31) (L' := [some (.ref 105), some (.int x1), some (.int x2)]) (st' := [.int x2]) rfl ?_
  exact z_ifne (Gr := Gr) (tgt := 43) (oV_Mo_party.1 (31, .ifCond .ne 12) (ip_lk_mem rfl)) (by decide) (fun q => (k0 q)) (fun q => (z_forget (k1 q) (And.intro rfl (And.intro rfl trivial))))
set_option maxRecDepth 100000 in
theorem b_Mo_party_43 {l : Launch} {Gr : zG} {n w : Nat} {d : Nat} {S : zS} {Q : Option Value → zS → Prop} {x1 : Int32} {x2 : Int32}  (k0 : ¬ x2 = 1 → zW l Gr (zc n w) 168 M_Mo_party (d + 1) 57 [some (.ref 105), some (.int x1), none] [] S Q) (k1 : x2 = 1 → zW l Gr (zc n w) 168 M_Mo_party (d + 1) 48 [some (.ref 105), some (.int x1), none] [] S Q) : zW l Gr (zc n w) 168 M_Mo_party (d + 1) 43 [some (.ref 105), some (.int x1), some (.int x2)] [] S Q := by
  refine z_go (Gr := Gr) (zc := zc n w) (K := 168) oV_Mo_party 2 (pc' := 45) (L' := [some (.ref 105), some (.int x1), some (.int x2)]) (st' := [.int 1, .int x2]) rfl ?_
  exact z_icne (Gr := Gr) (tgt := 57) (oV_Mo_party.1 (45, .if_icmp .ne 12) (ip_lk_mem rfl)) (by decide) (fun q => (z_forget (k0 q) (And.intro rfl (And.intro rfl trivial)))) (fun q => (z_forget (k1 q) (And.intro rfl (And.intro rfl trivial))))
set_option maxRecDepth 100000 in
theorem b_Mo_party_34 {l : Launch} {Gr : zG} {n w : Nat} {d : Nat} {S : zS} {Q : Option Value → zS → Prop} {x1 : Int32} (g0 : vp_in x1 16) (k0 : zW l Gr (zc n w) 168 M_Mo_party (d + 1) 62 [none, none, none] [.int (S.1 157 ((x1 : Int32).toNatClampNeg))] S Q) : zW l Gr (zc n w) 168 M_Mo_party (d + 1) 34 [some (.ref 105), some (.int x1), none] [] S Q := by
  refine z_go (Gr := Gr) (zc := zc n w) (K := 168) oV_Mo_party 3 (pc' := 39) (L' := [some (.ref 105), some (.int x1), none]) (st' := [.int x1, .ref 189]) rfl ?_
  refine z_iald (Gr := Gr) (c := 157) (oV_Mo_party.1 (39, .iaload) (ip_lk_mem rfl)) (by decide) rfl g0 ?_
  refine z_go (Gr := Gr) (zc := zc n w) (K := 168) oV_Mo_party 1 (pc' := 62) (L' := [some (.ref 105), some (.int x1), none]) (st' := [.int (S.1 157 ((x1 : Int32).toNatClampNeg))]) rfl ?_
  exact (z_forget k0 trivial)
set_option maxRecDepth 100000 in
theorem b_Mo_party_57 {l : Launch} {Gr : zG} {n w : Nat} {d : Nat} {S : zS} {Q : Option Value → zS → Prop} {R : Int32 → zS → Prop} (hg : ip_gk (lg_tbl, vwCl, Gr)) {x1 : Int32}  (k0 : zMi l Gr (zc n w) 168 M_Mo_viewBits d [.ref 105, .int x1] S R) (k1 : ∀ v S', R v S' → zW l Gr (zc n w) 168 M_Mo_party (d + 1) 62 [none, none, none] [.int v] S' Q) : zW l Gr (zc n w) 168 M_Mo_party (d + 1) 57 [some (.ref 105), some (.int x1), none] [] S Q := by
  refine z_go (Gr := Gr) (zc := zc n w) (K := 168) oV_Mo_party 2 (pc' := 59) (L' := [some (.ref 105), some (.int x1), none]) (st' := [.int x1, .ref 105]) rfl ?_
  exact z_callV (Gr := Gr) hg.2.2.1 fT oM_Mo_viewBits (oV_Mo_party.1 (59, .invokevirtual 866) (ip_lk_mem rfl)) ⟨tt_11 _ (List.mem_of_getElem? (i := 31) rfl) rfl, tt_11 _ (List.mem_of_getElem? (i := 33) rfl) rfl, fS_Mo_viewBits⟩ (c := 73) (ci := 12) (As := [.int x1]) rfl rfl rfl (by decide) rfl (Nat.le_of_ble_eq_true rfl) k0 (fun v S' q => by obtain ⟨x, rfl, q⟩ := q; exact (z_forget (k1 _ _ q) trivial))
set_option maxRecDepth 100000 in
theorem b_Mo_party_48 {l : Launch} {Gr : zG} {n w : Nat} {d : Nat} {S : zS} {Q : Option Value → zS → Prop} {x1 : Int32} (g0 : vp_in x1 16) (k0 : zW l Gr (zc n w) 168 M_Mo_party (d + 1) 62 [none, none, none] [.int (S.1 160 ((x1 : Int32).toNatClampNeg))] S Q) : zW l Gr (zc n w) 168 M_Mo_party (d + 1) 48 [some (.ref 105), some (.int x1), none] [] S Q := by
  refine z_go (Gr := Gr) (zc := zc n w) (K := 168) oV_Mo_party 3 (pc' := 53) (L' := [some (.ref 105), some (.int x1), none]) (st' := [.int x1, .ref 192]) rfl ?_
  refine z_iald (Gr := Gr) (c := 160) (oV_Mo_party.1 (53, .iaload) (ip_lk_mem rfl)) (by decide) rfl g0 ?_
  refine z_go (Gr := Gr) (zc := zc n w) (K := 168) oV_Mo_party 1 (pc' := 62) (L' := [some (.ref 105), some (.int x1), none]) (st' := [.int (S.1 160 ((x1 : Int32).toNatClampNeg))]) rfl ?_
  exact (z_forget k0 trivial)
set_option maxRecDepth 100000 in
theorem b_Mo_party_62 {l : Launch} {Gr : zG} {n w : Nat} {d : Nat} {S : zS} {Q : Option Value → zS → Prop} {s0 : Int32}  (k0 : Q (some (.int s0)) S) : zW l Gr (zc n w) 168 M_Mo_party (d + 1) 62 [none, none, none] [.int s0] S Q := by
  exact z_ret (v := (some (.int s0))) (oV_Mo_party.1 (62, .ireturn) (ip_lk_mem rfl)) k0
theorem e_Mo_party {l : Launch} {Gr : zG} {n w : Nat} {d : Nat} {S : zS} {R : Int32 → zS → Prop} {x1 : Int32} {x2 : Int32} (k : zW l Gr (zc n w) 168 M_Mo_party (d + 1) 0 [some (.ref 105), some (.int x1), some (.int x2)] [] S (fun v S' => ∃ x, v = some (.int x) ∧ R x S')) : zMi l Gr (zc n w) 168 M_Mo_party (d + 1) [.ref 105, .int x1, .int x2] S R := z_mi oM_Mo_party rfl (Nat.le_of_ble_eq_true rfl) k
set_option maxRecDepth 100000 in
theorem b_Mo_dealt_0 {l : Launch} {Gr : zG} {n w : Nat} {d : Nat} {S : zS} {Q : Option Value → zS → Prop} {x1 : Int32} {x2 : Int32} {x3 : Int32}  (k0 : (S.1 73 124) = 0 → zW l Gr (zc n w) 168 M_Mo_dealt d 40 [none, none, none, none] [] S Q) (k1 : ¬ (S.1 73 124) = 0 → zW l Gr (zc n w) 168 M_Mo_dealt d 7 [some (.ref 105), some (.int x1), some (.int x2), some (.int x3)] [] S Q) : zW l Gr (zc n w) 168 M_Mo_dealt d 0 [some (.ref 105), some (.int x1), some (.int x2), some (.int x3)] [] S Q := by
  refine z_go (Gr := Gr) (zc := zc n w) (K := 168) oV_Mo_dealt 2 (pc' := 4) (L' := [some (.ref 105), some (.int x1), some (.int x2), some (.int x3)]) (st' := [.int (S.1 73 124)]) rfl ?_
  exact z_ifeq (Gr := Gr) (tgt := 40) (oV_Mo_dealt.1 (4, .ifCond .eq 36) (ip_lk_mem rfl)) (by decide) (fun q => (z_forget (k0 q) trivial)) (fun q => (k1 q))
set_option maxRecDepth 100000 in
theorem b_Mo_dealt_40 {l : Launch} {Gr : zG} {n w : Nat} {d : Nat} {S : zS} {Q : Option Value → zS → Prop}   (k0 : Q (some (.int (-1))) S) : zW l Gr (zc n w) 168 M_Mo_dealt d 40 [none, none, none, none] [] S Q := by
  refine z_go (Gr := Gr) (zc := zc n w) (K := 168) oV_Mo_dealt 1 (pc' := 41) (L' := [none, none, none, none]) (st' := [.int (-1)]) rfl ?_
  exact z_ret (v := (some (.int (-1)))) (oV_Mo_dealt.1 (41, .ireturn) (ip_lk_mem rfl)) k0
set_option maxRecDepth 100000 in
theorem b_Mo_dealt_7 {l : Launch} {Gr : zG} {n w : Nat} {d : Nat} {S : zS} {Q : Option Value → zS → Prop} {x1 : Int32} {x2 : Int32} {x3 : Int32}  (k0 : x1 < 0 → zW l Gr (zc n w) 168 M_Mo_dealt d 40 [none, none, none, none] [] S Q) (k1 : ¬ x1 < 0 → zW l Gr (zc n w) 168 M_Mo_dealt d 11 [some (.ref 105), some (.int x1), some (.int x2), some (.int x3)] [] S Q) : zW l Gr (zc n w) 168 M_Mo_dealt d 7 [some (.ref 105), some (.int x1), some (.int x2), some (.int x3)] [] S Q := by
  refine z_go (Gr := Gr) (zc := zc n w) (K := 168) oV_Mo_dealt 1 (pc' := 8) (L' := [some (.ref 105), some (.int x1), some (.int x2), some (.int x3)]) (st' := [.int x1]) rfl ?_
  exact z_iflt (Gr := Gr) (tgt := 40) (oV_Mo_dealt.1 (8, .ifCond .lt 32) (ip_lk_mem rfl)) (by decide) (fun q => (z_forget (k0 q) trivial)) (fun q => (k1 q))
set_option maxRecDepth 100000 in
theorem b_Mo_dealt_11 {l : Launch} {Gr : zG} {n w : Nat} {d : Nat} {S : zS} {Q : Option Value → zS → Prop} {x1 : Int32} {x2 : Int32} {x3 : Int32}  (k0 : (nI n) ≤ x1 → zW l Gr (zc n w) 168 M_Mo_dealt d 40 [none, none, none, none] [] S Q) (k1 : ¬ (nI n) ≤ x1 → zW l Gr (zc n w) 168 M_Mo_dealt d 19 [some (.ref 105), some (.int x1), some (.int x2), some (.int x3)] [] S Q) : zW l Gr (zc n w) 168 M_Mo_dealt d 11 [some (.ref 105), some (.int x1), some (.int x2), some (.int x3)] [] S Q := by
  refine z_go (Gr := Gr) (zc := zc n w) (K := 168) oV_Mo_dealt 3 (pc' := 16) (L' := [some (.ref 105), some (.int x1), some (.int x2), some (.int x3)]) (st' := [.int (nI n), .int x1]) rfl ?_
  exact z_icge (Gr := Gr) (tgt := 40) (oV_Mo_dealt.1 (16, .if_icmp .ge 24) (ip_lk_mem rfl)) (by decide) (fun q => (z_forget (k0 q) trivial)) (fun q => (k1 q))
set_option maxRecDepth 100000 in
theorem b_Mo_dealt_19 {l : Launch} {Gr : zG} {n w : Nat} {d : Nat} {S : zS} {Q : Option Value → zS → Prop} {x1 : Int32} {x2 : Int32} {x3 : Int32}  (k0 : x2 < 0 → zW l Gr (zc n w) 168 M_Mo_dealt d 40 [none, none, none, none] [] S Q) (k1 : ¬ x2 < 0 → zW l Gr (zc n w) 168 M_Mo_dealt d 23 [some (.ref 105), some (.int x1), some (.int x2), some (.int x3)] [] S Q) : zW l Gr (zc n w) 168 M_Mo_dealt d 19 [some (.ref 105), some (.int x1), some (.int x2), some (.int x3)] [] S Q := by
  refine z_go (Gr := Gr) (zc := zc n w) (K := 168) oV_Mo_dealt 1 (pc' := 20) (L' := [some (.ref 105), some (.int x1), some (.int x2), some (.int x3)]) (st' := [.int x2]) rfl ?_
  exact z_iflt (Gr := Gr) (tgt := 40) (oV_Mo_dealt.1 (20, .ifCond .lt 20) (ip_lk_mem rfl)) (by decide) (fun q => (z_forget (k0 q) trivial)) (fun q => (k1 q))
set_option maxRecDepth 100000 in
theorem b_Mo_dealt_23 {l : Launch} {Gr : zG} {n w : Nat} {d : Nat} {S : zS} {Q : Option Value → zS → Prop} {x1 : Int32} {x2 : Int32} {x3 : Int32}  (k0 : (S.1 73 66) ≤ x2 → zW l Gr (zc n w) 168 M_Mo_dealt d 40 [none, none, none, none] [] S Q) (k1 : ¬ (S.1 73 66) ≤ x2 → zW l Gr (zc n w) 168 M_Mo_dealt d 31 [some (.ref 105), some (.int x1), some (.int x2), some (.int x3)] [] S Q) : zW l Gr (zc n w) 168 M_Mo_dealt d 23 [some (.ref 105), some (.int x1), some (.int x2), some (.int x3)] [] S Q := by
  refine z_go (Gr := Gr) (zc := zc n w) (K := 168) oV_Mo_dealt 3 (pc' := 28) (L' := [some (.ref 105), some (.int x1), some (.int x2), some (.int x3)]) (st' := [.int (S.1 73 66), .int x2]) rfl ?_
  exact z_icge (Gr := Gr) (tgt := 40) (oV_Mo_dealt.1 (28, .if_icmp .ge 12) (ip_lk_mem rfl)) (by decide) (fun q => (z_forget (k0 q) trivial)) (fun q => (k1 q))
set_option maxRecDepth 100000 in
theorem b_Mo_dealt_31 {l : Launch} {Gr : zG} {n w : Nat} {d : Nat} {S : zS} {Q : Option Value → zS → Prop} {x1 : Int32} {x2 : Int32} {x3 : Int32}  (k0 : x3 < 0 → zW l Gr (zc n w) 168 M_Mo_dealt d 40 [none, none, none, none] [] S Q) (k1 : ¬ x3 < 0 → zW l Gr (zc n w) 168 M_Mo_dealt d 35 [some (.ref 105), some (.int x1), some (.int x2), some (.int x3)] [] S Q) : zW l Gr (zc n w) 168 M_Mo_dealt d 31 [some (.ref 105), some (.int x1), some (.int x2), some (.int x3)] [] S Q := by
  refine z_go (Gr := Gr) (zc := zc n w) (K := 168) oV_Mo_dealt 1 (pc' := 32) (L' := [some (.ref 105), some (.int x1), some (.int x2), some (.int x3)]) (st' := [.int x3]) rfl ?_
  exact z_iflt (Gr := Gr) (tgt := 40) (oV_Mo_dealt.1 (32, .ifCond .lt 8) (ip_lk_mem rfl)) (by decide) (fun q => (z_forget (k0 q) trivial)) (fun q => (k1 q))
set_option maxRecDepth 100000 in
theorem b_Mo_dealt_35 {l : Launch} {Gr : zG} {n w : Nat} {d : Nat} {S : zS} {Q : Option Value → zS → Prop} {x1 : Int32} {x2 : Int32} {x3 : Int32}  (k0 : x3 ≤ 2 → zW l Gr (zc n w) 168 M_Mo_dealt d 42 [some (.ref 105), some (.int x1), some (.int x2), some (.int x3)] [] S Q) (k1 : ¬ x3 ≤ 2 → zW l Gr (zc n w) 168 M_Mo_dealt d 40 [none, none, none, none] [] S Q) : zW l Gr (zc n w) 168 M_Mo_dealt d 35 [some (.ref 105), some (.int x1), some (.int x2), some (.int x3)] [] S Q := by
  refine z_go (Gr := Gr) (zc := zc n w) (K := 168) oV_Mo_dealt 2 (pc' := 37) (L' := [some (.ref 105), some (.int x1), some (.int x2), some (.int x3)]) (st' := [.int 2, .int x3]) rfl ?_
  exact z_icle (Gr := Gr) (tgt := 42) (oV_Mo_dealt.1 (37, .if_icmp .le 5) (ip_lk_mem rfl)) (by decide) (fun q => (k0 q)) (fun q => (z_forget (k1 q) trivial))
set_option maxRecDepth 100000 in
theorem b_Mo_dealt_42 {l : Launch} {Gr : zG} {n w : Nat} {d : Nat} {S : zS} {Q : Option Value → zS → Prop} {x1 : Int32} {x2 : Int32} {x3 : Int32} (g0 : vp_in x2 40000) (k0 : ¬ (S.1 111 ((x2 : Int32).toNatClampNeg)) = 0 → zW l Gr (zc n w) 168 M_Mo_dealt d 53 [some (.ref 105), some (.int x1), some (.int x2), some (.int x3)] [] S Q) (k1 : (S.1 111 ((x2 : Int32).toNatClampNeg)) = 0 → zW l Gr (zc n w) 168 M_Mo_dealt d 51 [none, none, none, none] [] S Q) : zW l Gr (zc n w) 168 M_Mo_dealt d 42 [some (.ref 105), some (.int x1), some (.int x2), some (.int x3)] [] S Q := by
  refine z_go (Gr := Gr) (zc := zc n w) (K := 168) oV_Mo_dealt 3 (pc' := 47) (L' := [some (.ref 105), some (.int x1), some (.int x2), some (.int x3)]) (st' := [.int x2, .ref 143]) rfl ?_
  refine z_iald (Gr := Gr) (c := 111) (oV_Mo_dealt.1 (47, .iaload) (ip_lk_mem rfl)) (by decide) rfl g0 ?_
  exact z_ifne (Gr := Gr) (tgt := 53) (oV_Mo_dealt.1 (48, .ifCond .ne 5) (ip_lk_mem rfl)) (by decide) (fun q => (k0 q)) (fun q => (z_forget (k1 q) trivial))
set_option maxRecDepth 100000 in
theorem b_Mo_dealt_53 {l : Launch} {Gr : zG} {n w : Nat} {d : Nat} {S : zS} {Q : Option Value → zS → Prop} {x1 : Int32} {x2 : Int32} {x3 : Int32}  (k0 : ¬ x3 = 0 → zW l Gr (zc n w) 168 M_Mo_dealt d 66 [some (.ref 105), some (.int x1), some (.int x2), some (.int x3)] [] S Q) (k1 : x3 = 0 → zW l Gr (zc n w) 168 M_Mo_dealt d 57 [some (.ref 105), some (.int x1), some (.int x2), none] [] S Q) : zW l Gr (zc n w) 168 M_Mo_dealt d 53 [some (.ref 105), some (.int x1), some (.int x2), some (.int x3)] [] S Q := by
  refine z_go (Gr := Gr) (zc := zc n w) (K := 168) oV_Mo_dealt 1 (pc' := 54) (L' := [some (.ref 105), some (.int x1), some (.int x2), some (.int x3)]) (st' := [.int x3]) rfl ?_
  exact z_ifne (Gr := Gr) (tgt := 66) (oV_Mo_dealt.1 (54, .ifCond .ne 12) (ip_lk_mem rfl)) (by decide) (fun q => (k0 q)) (fun q => (z_forget (k1 q) (And.intro rfl (And.intro rfl (And.intro rfl trivial)))))
set_option maxRecDepth 100000 in
theorem b_Mo_dealt_51 {l : Launch} {Gr : zG} {n w : Nat} {d : Nat} {S : zS} {Q : Option Value → zS → Prop}   (k0 : Q (some (.int (-1))) S) : zW l Gr (zc n w) 168 M_Mo_dealt d 51 [none, none, none, none] [] S Q := by
  refine z_go (Gr := Gr) (zc := zc n w) (K := 168) oV_Mo_dealt 1 (pc' := 52) (L' := [none, none, none, none]) (st' := [.int (-1)]) rfl ?_
  exact z_ret (v := (some (.int (-1)))) (oV_Mo_dealt.1 (52, .ireturn) (ip_lk_mem rfl)) k0
set_option maxRecDepth 100000 in
theorem b_Mo_dealt_66 {l : Launch} {Gr : zG} {n w : Nat} {d : Nat} {S : zS} {Q : Option Value → zS → Prop} {x1 : Int32} {x2 : Int32} {x3 : Int32}  (k0 : ¬ x3 = 1 → zW l Gr (zc n w) 168 M_Mo_dealt d 80 [some (.ref 105), some (.int x1), some (.int x2), none] [] S Q) (k1 : x3 = 1 → zW l Gr (zc n w) 168 M_Mo_dealt d 71 [some (.ref 105), some (.int x1), some (.int x2), none] [] S Q) : zW l Gr (zc n w) 168 M_Mo_dealt d 66 [some (.ref 105), some (.int x1), some (.int x2), some (.int x3)] [] S Q := by
  refine z_go (Gr := Gr) (zc := zc n w) (K := 168) oV_Mo_dealt 2 (pc' := 68) (L' := [some (.ref 105), some (.int x1), some (.int x2), some (.int x3)]) (st' := [.int 1, .int x3]) rfl ?_
  exact z_icne (Gr := Gr) (tgt := 80) (oV_Mo_dealt.1 (68, .if_icmp .ne 12) (ip_lk_mem rfl)) (by decide) (fun q => (z_forget (k0 q) (And.intro rfl (And.intro rfl (And.intro rfl trivial))))) (fun q => (z_forget (k1 q) (And.intro rfl (And.intro rfl (And.intro rfl trivial)))))
set_option maxRecDepth 100000 in
theorem b_Mo_dealt_57 {l : Launch} {Gr : zG} {n w : Nat} {d : Nat} {S : zS} {Q : Option Value → zS → Prop} {x1 : Int32} {x2 : Int32} (g0 : vp_in x2 40000) (k0 : zW l Gr (zc n w) 168 M_Mo_dealt d 86 [none, some (.int x1), none, none] [.int (S.1 152 ((x2 : Int32).toNatClampNeg))] S Q) : zW l Gr (zc n w) 168 M_Mo_dealt d 57 [some (.ref 105), some (.int x1), some (.int x2), none] [] S Q := by
  refine z_go (Gr := Gr) (zc := zc n w) (K := 168) oV_Mo_dealt 3 (pc' := 62) (L' := [some (.ref 105), some (.int x1), some (.int x2), none]) (st' := [.int x2, .ref 184]) rfl ?_
  refine z_iald (Gr := Gr) (c := 152) (oV_Mo_dealt.1 (62, .iaload) (ip_lk_mem rfl)) (by decide) rfl g0 ?_
  refine z_go (Gr := Gr) (zc := zc n w) (K := 168) oV_Mo_dealt 1 (pc' := 86) (L' := [some (.ref 105), some (.int x1), some (.int x2), none]) (st' := [.int (S.1 152 ((x2 : Int32).toNatClampNeg))]) rfl ?_
  exact (z_forget k0 (And.intro rfl trivial))
set_option maxRecDepth 100000 in
theorem b_Mo_dealt_80 {l : Launch} {Gr : zG} {n w : Nat} {d : Nat} {S : zS} {Q : Option Value → zS → Prop} {x1 : Int32} {x2 : Int32} (g0 : vp_in x2 40000) (k0 : zW l Gr (zc n w) 168 M_Mo_dealt d 86 [none, some (.int x1), none, none] [.int (S.1 154 ((x2 : Int32).toNatClampNeg))] S Q) : zW l Gr (zc n w) 168 M_Mo_dealt d 80 [some (.ref 105), some (.int x1), some (.int x2), none] [] S Q := by
  refine z_go (Gr := Gr) (zc := zc n w) (K := 168) oV_Mo_dealt 3 (pc' := 85) (L' := [some (.ref 105), some (.int x1), some (.int x2), none]) (st' := [.int x2, .ref 186]) rfl ?_
  refine z_iald (Gr := Gr) (c := 154) (oV_Mo_dealt.1 (85, .iaload) (ip_lk_mem rfl)) (by decide) rfl g0 ?_
  exact (z_forget k0 (And.intro rfl trivial))
set_option maxRecDepth 100000 in
theorem b_Mo_dealt_71 {l : Launch} {Gr : zG} {n w : Nat} {d : Nat} {S : zS} {Q : Option Value → zS → Prop} {x1 : Int32} {x2 : Int32} (g0 : vp_in x2 40000) (k0 : zW l Gr (zc n w) 168 M_Mo_dealt d 86 [none, some (.int x1), none, none] [.int (S.1 153 ((x2 : Int32).toNatClampNeg))] S Q) : zW l Gr (zc n w) 168 M_Mo_dealt d 71 [some (.ref 105), some (.int x1), some (.int x2), none] [] S Q := by
  refine z_go (Gr := Gr) (zc := zc n w) (K := 168) oV_Mo_dealt 3 (pc' := 76) (L' := [some (.ref 105), some (.int x1), some (.int x2), none]) (st' := [.int x2, .ref 185]) rfl ?_
  refine z_iald (Gr := Gr) (c := 153) (oV_Mo_dealt.1 (76, .iaload) (ip_lk_mem rfl)) (by decide) rfl g0 ?_
  refine z_go (Gr := Gr) (zc := zc n w) (K := 168) oV_Mo_dealt 1 (pc' := 86) (L' := [some (.ref 105), some (.int x1), some (.int x2), none]) (st' := [.int (S.1 153 ((x2 : Int32).toNatClampNeg))]) rfl ?_
  exact (z_forget k0 (And.intro rfl trivial))
set_option maxRecDepth 100000 in
theorem b_Mo_dealt_86 {l : Launch} {Gr : zG} {n w : Nat} {d : Nat} {S : zS} {Q : Option Value → zS → Prop} {x1 : Int32} {s0 : Int32}  (k0 : Q (some (.int ((s0 >>> (x1 &&& 31)) &&& 1))) S) : zW l Gr (zc n w) 168 M_Mo_dealt d 86 [none, some (.int x1), none, none] [.int s0] S Q := by
  refine z_go (Gr := Gr) (zc := zc n w) (K := 168) oV_Mo_dealt 4 (pc' := 90) (L' := [none, some (.int x1), none, none]) (st' := [.int ((s0 >>> (x1 &&& 31)) &&& 1)]) rfl ?_
  exact z_ret (v := (some (.int ((s0 >>> (x1 &&& 31)) &&& 1)))) (oV_Mo_dealt.1 (90, .ireturn) (ip_lk_mem rfl)) k0
theorem e_Mo_dealt {l : Launch} {Gr : zG} {n w : Nat} {d : Nat} {S : zS} {R : Int32 → zS → Prop} {x1 : Int32} {x2 : Int32} {x3 : Int32} (k : zW l Gr (zc n w) 168 M_Mo_dealt d 0 [some (.ref 105), some (.int x1), some (.int x2), some (.int x3)] [] S (fun v S' => ∃ x, v = some (.int x) ∧ R x S')) : zMi l Gr (zc n w) 168 M_Mo_dealt d [.ref 105, .int x1, .int x2, .int x3] S R := z_mi oM_Mo_dealt rfl (Nat.le_of_ble_eq_true rfl) k
set_option maxRecDepth 100000 in
theorem b_Mo_share_0 {l : Launch} {Gr : zG} {n w : Nat} {d : Nat} {S : zS} {Q : Option Value → zS → Prop} {x1 : Int32} {x2 : Int32}  (k0 : (S.1 73 124) = 0 → zW l Gr (zc n w) 168 M_Mo_share d 36 [none, none, none, none] [] S Q) (k1 : ¬ (S.1 73 124) = 0 → zW l Gr (zc n w) 168 M_Mo_share d 7 [some (.ref 105), some (.int x1), some (.int x2), none] [] S Q) : zW l Gr (zc n w) 168 M_Mo_share d 0 [some (.ref 105), some (.int x1), some (.int x2), none] [] S Q := by
  refine z_go (Gr := Gr) (zc := zc n w) (K := 168) oV_Mo_share 2 (pc' := 4) (L' := [some (.ref 105), some (.int x1), some (.int x2), none]) (st' := [.int (S.1 73 124)]) rfl ?_
  exact z_ifeq (Gr := Gr) (tgt := 36) (oV_Mo_share.1 (4, .ifCond .eq 32) (ip_lk_mem rfl)) (by decide) (fun q => (z_forget (k0 q) trivial)) (fun q => (k1 q))
set_option maxRecDepth 100000 in
theorem b_Mo_share_36 {l : Launch} {Gr : zG} {n w : Nat} {d : Nat} {S : zS} {Q : Option Value → zS → Prop}   (k0 : Q (some (.int (-1))) S) : zW l Gr (zc n w) 168 M_Mo_share d 36 [none, none, none, none] [] S Q := by
  refine z_go (Gr := Gr) (zc := zc n w) (K := 168) oV_Mo_share 1 (pc' := 37) (L' := [none, none, none, none]) (st' := [.int (-1)]) rfl ?_
  exact z_ret (v := (some (.int (-1)))) (oV_Mo_share.1 (37, .ireturn) (ip_lk_mem rfl)) k0
set_option maxRecDepth 100000 in
theorem b_Mo_share_7 {l : Launch} {Gr : zG} {n w : Nat} {d : Nat} {S : zS} {Q : Option Value → zS → Prop} {x1 : Int32} {x2 : Int32}  (k0 : x1 < 0 → zW l Gr (zc n w) 168 M_Mo_share d 36 [none, none, none, none] [] S Q) (k1 : ¬ x1 < 0 → zW l Gr (zc n w) 168 M_Mo_share d 11 [some (.ref 105), some (.int x1), some (.int x2), none] [] S Q) : zW l Gr (zc n w) 168 M_Mo_share d 7 [some (.ref 105), some (.int x1), some (.int x2), none] [] S Q := by
  refine z_go (Gr := Gr) (zc := zc n w) (K := 168) oV_Mo_share 1 (pc' := 8) (L' := [some (.ref 105), some (.int x1), some (.int x2), none]) (st' := [.int x1]) rfl ?_
  exact z_iflt (Gr := Gr) (tgt := 36) (oV_Mo_share.1 (8, .ifCond .lt 28) (ip_lk_mem rfl)) (by decide) (fun q => (z_forget (k0 q) trivial)) (fun q => (k1 q))
set_option maxRecDepth 100000 in
theorem b_Mo_share_11 {l : Launch} {Gr : zG} {n w : Nat} {d : Nat} {S : zS} {Q : Option Value → zS → Prop} {x1 : Int32} {x2 : Int32}  (k0 : (nI n) ≤ x1 → zW l Gr (zc n w) 168 M_Mo_share d 36 [none, none, none, none] [] S Q) (k1 : ¬ (nI n) ≤ x1 → zW l Gr (zc n w) 168 M_Mo_share d 19 [some (.ref 105), some (.int x1), some (.int x2), none] [] S Q) : zW l Gr (zc n w) 168 M_Mo_share d 11 [some (.ref 105), some (.int x1), some (.int x2), none] [] S Q := by
  refine z_go (Gr := Gr) (zc := zc n w) (K := 168) oV_Mo_share 3 (pc' := 16) (L' := [some (.ref 105), some (.int x1), some (.int x2), none]) (st' := [.int (nI n), .int x1]) rfl ?_
  exact z_icge (Gr := Gr) (tgt := 36) (oV_Mo_share.1 (16, .if_icmp .ge 20) (ip_lk_mem rfl)) (by decide) (fun q => (z_forget (k0 q) trivial)) (fun q => (k1 q))
set_option maxRecDepth 100000 in
theorem b_Mo_share_19 {l : Launch} {Gr : zG} {n w : Nat} {d : Nat} {S : zS} {Q : Option Value → zS → Prop} {x1 : Int32} {x2 : Int32}  (k0 : x2 < 0 → zW l Gr (zc n w) 168 M_Mo_share d 36 [none, none, none, none] [] S Q) (k1 : ¬ x2 < 0 → zW l Gr (zc n w) 168 M_Mo_share d 23 [some (.ref 105), some (.int x1), some (.int x2), none] [] S Q) : zW l Gr (zc n w) 168 M_Mo_share d 19 [some (.ref 105), some (.int x1), some (.int x2), none] [] S Q := by
  refine z_go (Gr := Gr) (zc := zc n w) (K := 168) oV_Mo_share 1 (pc' := 20) (L' := [some (.ref 105), some (.int x1), some (.int x2), none]) (st' := [.int x2]) rfl ?_
  exact z_iflt (Gr := Gr) (tgt := 36) (oV_Mo_share.1 (20, .ifCond .lt 16) (ip_lk_mem rfl)) (by decide) (fun q => (z_forget (k0 q) trivial)) (fun q => (k1 q))
set_option maxRecDepth 100000 in
theorem b_Mo_share_23 {l : Launch} {Gr : zG} {n w : Nat} {d : Nat} {S : zS} {Q : Option Value → zS → Prop} {x1 : Int32} {x2 : Int32}  (k0 : x2 < ((S.1 73 65) + (S.1 73 66)) → zW l Gr (zc n w) 168 M_Mo_share d 38 [some (.ref 105), some (.int x1), some (.int x2), none] [] S Q) (k1 : ¬ x2 < ((S.1 73 65) + (S.1 73 66)) → zW l Gr (zc n w) 168 M_Mo_share d 36 [none, none, none, none] [] S Q) : zW l Gr (zc n w) 168 M_Mo_share d 23 [some (.ref 105), some (.int x1), some (.int x2), none] [] S Q := by
  refine z_go (Gr := Gr) (zc := zc n w) (K := 168) oV_Mo_share 6 (pc' := 33) (L' := [some (.ref 105), some (.int x1), some (.int x2), none]) (st' := [.int ((S.1 73 65) + (S.1 73 66)), .int x2]) rfl ?_
  exact z_iclt (Gr := Gr) (tgt := 38) (oV_Mo_share.1 (33, .if_icmp .lt 5) (ip_lk_mem rfl)) (by decide) (fun q => (k0 q)) (fun q => (z_forget (k1 q) trivial))
set_option maxRecDepth 100000 in
theorem b_Mo_share_38 {l : Launch} {Gr : zG} {n w : Nat} {d : Nat} {S : zS} {Q : Option Value → zS → Prop} {x1 : Int32} {x2 : Int32}  (k0 : (S.1 73 65) ≤ x2 → zW l Gr (zc n w) 168 M_Mo_share d 50 [some (.ref 105), some (.int x1), some (.int x2), none] [] S Q) (k1 : ¬ (S.1 73 65) ≤ x2 → zW l Gr (zc n w) 168 M_Mo_share d 46 [some (.ref 105), some (.int x1), some (.int x2), none] [] S Q) : zW l Gr (zc n w) 168 M_Mo_share d 38 [some (.ref 105), some (.int x1), some (.int x2), none] [] S Q := by
  refine z_go (Gr := Gr) (zc := zc n w) (K := 168) oV_Mo_share 3 (pc' := 43) (L' := [some (.ref 105), some (.int x1), some (.int x2), none]) (st' := [.int (S.1 73 65), .int x2]) rfl ?_
  exact z_icge (Gr := Gr) (tgt := 50) (oV_Mo_share.1 (43, .if_icmp .ge 7) (ip_lk_mem rfl)) (by decide) (fun q => (k0 q)) (fun q => (k1 q))
set_option maxRecDepth 100000 in
theorem b_Mo_share_50 {l : Launch} {Gr : zG} {n w : Nat} {d : Nat} {S : zS} {Q : Option Value → zS → Prop} {x1 : Int32} {x2 : Int32} (g0 : vp_in (x2 - (S.1 73 65)) 40000) (k0 : zW l Gr (zc n w) 168 M_Mo_share d 61 [some (.ref 105), some (.int x1), some (.int x2), none] [.int (S.1 112 (((x2 - (S.1 73 65)) : Int32).toNatClampNeg))] S Q) : zW l Gr (zc n w) 168 M_Mo_share d 50 [some (.ref 105), some (.int x1), some (.int x2), none] [] S Q := by
  refine z_go (Gr := Gr) (zc := zc n w) (K := 168) oV_Mo_share 6 (pc' := 60) (L' := [some (.ref 105), some (.int x1), some (.int x2), none]) (st' := [.int (x2 - (S.1 73 65)), .ref 144]) rfl ?_
  refine z_iald (Gr := Gr) (c := 112) (oV_Mo_share.1 (60, .iaload) (ip_lk_mem rfl)) (by decide) rfl g0 ?_
  exact k0
set_option maxRecDepth 100000 in
theorem b_Mo_share_46 {l : Launch} {Gr : zG} {n w : Nat} {d : Nat} {S : zS} {Q : Option Value → zS → Prop} {x1 : Int32} {x2 : Int32}  (k0 : zW l Gr (zc n w) 168 M_Mo_share d 61 [some (.ref 105), some (.int x1), some (.int x2), none] [.int 0] S Q) : zW l Gr (zc n w) 168 M_Mo_share d 46 [some (.ref 105), some (.int x1), some (.int x2), none] [] S Q := by
  refine z_go (Gr := Gr) (zc := zc n w) (K := 168) oV_Mo_share 2 (pc' := 61) (L' := [some (.ref 105), some (.int x1), some (.int x2), none]) (st' := [.int 0]) rfl ?_
  exact k0
set_option maxRecDepth 100000 in
theorem b_Mo_share_61 {l : Launch} {Gr : zG} {n w : Nat} {d : Nat} {S : zS} {Q : Option Value → zS → Prop} {x1 : Int32} {x2 : Int32} {s0 : Int32} (g0 : vp_in x1 16) (k0 : (S.1 157 ((x1 : Int32).toNatClampNeg)) ≤ s0 → zW l Gr (zc n w) 168 M_Mo_share d 85 [none, none, none, none] [] S Q) (k1 : ¬ (S.1 157 ((x1 : Int32).toNatClampNeg)) ≤ s0 → zW l Gr (zc n w) 168 M_Mo_share d 72 [some (.ref 105), some (.int x1), some (.int x2), none] [] S Q) : zW l Gr (zc n w) 168 M_Mo_share d 61 [some (.ref 105), some (.int x1), some (.int x2), none] [.int s0] S Q := by
  refine z_go (Gr := Gr) (zc := zc n w) (K := 168) oV_Mo_share 4 (pc' := 67) (L' := [some (.ref 105), some (.int x1), some (.int x2), some (.int s0)]) (st' := [.int x1, .ref 189]) rfl ?_
  refine z_iald (Gr := Gr) (c := 157) (oV_Mo_share.1 (67, .iaload) (ip_lk_mem rfl)) (by decide) rfl g0 ?_
  refine z_go (Gr := Gr) (zc := zc n w) (K := 168) oV_Mo_share 1 (pc' := 69) (L' := [some (.ref 105), some (.int x1), some (.int x2), some (.int s0)]) (st' := [.int s0, .int (S.1 157 ((x1 : Int32).toNatClampNeg))]) rfl ?_
  exact z_icle (Gr := Gr) (tgt := 85) (oV_Mo_share.1 (69, .if_icmp .le 16) (ip_lk_mem rfl)) (by decide) (fun q => (z_forget (k0 q) trivial)) (fun q => (z_forget (k1 q) (And.intro rfl (And.intro rfl (And.intro rfl trivial)))))
set_option maxRecDepth 100000 in
theorem b_Mo_share_85 {l : Launch} {Gr : zG} {n w : Nat} {d : Nat} {S : zS} {Q : Option Value → zS → Prop}   (k0 : zW l Gr (zc n w) 168 M_Mo_share d 86 [none, none, none, none] [.int (-1)] S Q) : zW l Gr (zc n w) 168 M_Mo_share d 85 [none, none, none, none] [] S Q := by
  refine z_go (Gr := Gr) (zc := zc n w) (K := 168) oV_Mo_share 1 (pc' := 86) (L' := [none, none, none, none]) (st' := [.int (-1)]) rfl ?_
  exact k0
set_option maxRecDepth 100000 in
theorem b_Mo_share_72 {l : Launch} {Gr : zG} {n w : Nat} {d : Nat} {S : zS} {Q : Option Value → zS → Prop} {x1 : Int32} {x2 : Int32} (g0 : vp_in x2 48192) (k0 : zW l Gr (zc n w) 168 M_Mo_share d 86 [none, none, none, none] [.int (((S.1 151 ((x2 : Int32).toNatClampNeg)) >>> (x1 &&& 31)) &&& 1)] S Q) : zW l Gr (zc n w) 168 M_Mo_share d 72 [some (.ref 105), some (.int x1), some (.int x2), none] [] S Q := by
  refine z_go (Gr := Gr) (zc := zc n w) (K := 168) oV_Mo_share 3 (pc' := 77) (L' := [some (.ref 105), some (.int x1), some (.int x2), none]) (st' := [.int x2, .ref 183]) rfl ?_
  refine z_iald (Gr := Gr) (c := 151) (oV_Mo_share.1 (77, .iaload) (ip_lk_mem rfl)) (by decide) rfl g0 ?_
  refine z_go (Gr := Gr) (zc := zc n w) (K := 168) oV_Mo_share 5 (pc' := 86) (L' := [some (.ref 105), some (.int x1), some (.int x2), none]) (st' := [.int (((S.1 151 ((x2 : Int32).toNatClampNeg)) >>> (x1 &&& 31)) &&& 1)]) rfl ?_
  exact (z_forget k0 trivial)
set_option maxRecDepth 100000 in
theorem b_Mo_share_86 {l : Launch} {Gr : zG} {n w : Nat} {d : Nat} {S : zS} {Q : Option Value → zS → Prop} {s0 : Int32}  (k0 : Q (some (.int s0)) S) : zW l Gr (zc n w) 168 M_Mo_share d 86 [none, none, none, none] [.int s0] S Q := by
  exact z_ret (v := (some (.int s0))) (oV_Mo_share.1 (86, .ireturn) (ip_lk_mem rfl)) k0
theorem e_Mo_share {l : Launch} {Gr : zG} {n w : Nat} {d : Nat} {S : zS} {R : Int32 → zS → Prop} {x1 : Int32} {x2 : Int32} (k : zW l Gr (zc n w) 168 M_Mo_share d 0 [some (.ref 105), some (.int x1), some (.int x2), none] [] S (fun v S' => ∃ x, v = some (.int x) ∧ R x S')) : zMi l Gr (zc n w) 168 M_Mo_share d [.ref 105, .int x1, .int x2] S R := z_mi oM_Mo_share rfl (Nat.le_of_ble_eq_true rfl) k
set_option maxRecDepth 100000 in
theorem b_Mo_view_0 {l : Launch} {Gr : zG} {n w : Nat} {d : Nat} {S : zS} {Q : Option Value → zS → Prop} {x1 : Int32} {x2 : Int32}  (k0 : (S.1 73 124) = 0 → zW l Gr (zc n w) 168 M_Mo_view (d + 1) 48 [none, none, none, none, none, none, none, none, none] [] S Q) (k1 : ¬ (S.1 73 124) = 0 → zW l Gr (zc n w) 168 M_Mo_view (d + 1) 7 [some (.ref 105), some (.int x1), some (.int x2), none, none, none, none, none, none] [] S Q) : zW l Gr (zc n w) 168 M_Mo_view (d + 1) 0 [some (.ref 105), some (.int x1), some (.int x2), none, none, none, none, none, none] [] S Q := by
  refine z_go (Gr := Gr) (zc := zc n w) (K := 168) oV_Mo_view 2 (pc' := 4) (L' := [some (.ref 105), some (.int x1), some (.int x2), none, none, none, none, none, none]) (st' := [.int (S.1 73 124)]) rfl ?_
  exact z_ifeq (Gr := Gr) (tgt := 48) (oV_Mo_view.1 (4, .ifCond .eq 44) (ip_lk_mem rfl)) (by decide) (fun q => (z_forget (k0 q) trivial)) (fun q => (k1 q))
set_option maxRecDepth 100000 in
theorem b_Mo_view_48 {l : Launch} {Gr : zG} {n w : Nat} {d : Nat} {S : zS} {Q : Option Value → zS → Prop}   (k0 : Q (some (.int (-1))) S) : zW l Gr (zc n w) 168 M_Mo_view (d + 1) 48 [none, none, none, none, none, none, none, none, none] [] S Q := by
  refine z_go (Gr := Gr) (zc := zc n w) (K := 168) oV_Mo_view 1 (pc' := 49) (L' := [none, none, none, none, none, none, none, none, none]) (st' := [.int (-1)]) rfl ?_
  exact z_ret (v := (some (.int (-1)))) (oV_Mo_view.1 (49, .ireturn) (ip_lk_mem rfl)) k0
set_option maxRecDepth 100000 in
theorem b_Mo_view_7 {l : Launch} {Gr : zG} {n w : Nat} {d : Nat} {S : zS} {Q : Option Value → zS → Prop} {x1 : Int32} {x2 : Int32}  (k0 : x1 < 0 → zW l Gr (zc n w) 168 M_Mo_view (d + 1) 48 [none, none, none, none, none, none, none, none, none] [] S Q) (k1 : ¬ x1 < 0 → zW l Gr (zc n w) 168 M_Mo_view (d + 1) 11 [some (.ref 105), some (.int x1), some (.int x2), none, none, none, none, none, none] [] S Q) : zW l Gr (zc n w) 168 M_Mo_view (d + 1) 7 [some (.ref 105), some (.int x1), some (.int x2), none, none, none, none, none, none] [] S Q := by
  refine z_go (Gr := Gr) (zc := zc n w) (K := 168) oV_Mo_view 1 (pc' := 8) (L' := [some (.ref 105), some (.int x1), some (.int x2), none, none, none, none, none, none]) (st' := [.int x1]) rfl ?_
  exact z_iflt (Gr := Gr) (tgt := 48) (oV_Mo_view.1 (8, .ifCond .lt 40) (ip_lk_mem rfl)) (by decide) (fun q => (z_forget (k0 q) trivial)) (fun q => (k1 q))
set_option maxRecDepth 100000 in
theorem b_Mo_view_11 {l : Launch} {Gr : zG} {n w : Nat} {d : Nat} {S : zS} {Q : Option Value → zS → Prop} {x1 : Int32} {x2 : Int32}  (k0 : (nI n) ≤ x1 → zW l Gr (zc n w) 168 M_Mo_view (d + 1) 48 [none, none, none, none, none, none, none, none, none] [] S Q) (k1 : ¬ (nI n) ≤ x1 → zW l Gr (zc n w) 168 M_Mo_view (d + 1) 19 [some (.ref 105), some (.int x1), some (.int x2), none, none, none, none, none, none] [] S Q) : zW l Gr (zc n w) 168 M_Mo_view (d + 1) 11 [some (.ref 105), some (.int x1), some (.int x2), none, none, none, none, none, none] [] S Q := by
  refine z_go (Gr := Gr) (zc := zc n w) (K := 168) oV_Mo_view 3 (pc' := 16) (L' := [some (.ref 105), some (.int x1), some (.int x2), none, none, none, none, none, none]) (st' := [.int (nI n), .int x1]) rfl ?_
  exact z_icge (Gr := Gr) (tgt := 48) (oV_Mo_view.1 (16, .if_icmp .ge 32) (ip_lk_mem rfl)) (by decide) (fun q => (z_forget (k0 q) trivial)) (fun q => (k1 q))
set_option maxRecDepth 100000 in
theorem b_Mo_view_19 {l : Launch} {Gr : zG} {n w : Nat} {d : Nat} {S : zS} {Q : Option Value → zS → Prop} {x1 : Int32} {x2 : Int32}  (k0 : x2 < 0 → zW l Gr (zc n w) 168 M_Mo_view (d + 1) 48 [none, none, none, none, none, none, none, none, none] [] S Q) (k1 : ¬ x2 < 0 → zW l Gr (zc n w) 168 M_Mo_view (d + 1) 23 [some (.ref 105), some (.int x1), some (.int x2), none, none, none, none, none, none] [] S Q) : zW l Gr (zc n w) 168 M_Mo_view (d + 1) 19 [some (.ref 105), some (.int x1), some (.int x2), none, none, none, none, none, none] [] S Q := by
  refine z_go (Gr := Gr) (zc := zc n w) (K := 168) oV_Mo_view 1 (pc' := 20) (L' := [some (.ref 105), some (.int x1), some (.int x2), none, none, none, none, none, none]) (st' := [.int x2]) rfl ?_
  exact z_iflt (Gr := Gr) (tgt := 48) (oV_Mo_view.1 (20, .ifCond .lt 28) (ip_lk_mem rfl)) (by decide) (fun q => (z_forget (k0 q) trivial)) (fun q => (k1 q))
set_option maxRecDepth 100000 in
theorem b_Mo_view_23 {l : Launch} {Gr : zG} {n w : Nat} {d : Nat} {S : zS} {Q : Option Value → zS → Prop} {x1 : Int32} {x2 : Int32}  (k0 : x1 < 0 → zW l Gr (zc n w) 168 M_Mo_view (d + 1) 41 [some (.ref 105), some (.int x1), some (.int x2), none, none, none, none, none, none] [.ref 105, .int x2] S Q) (k1 : ¬ x1 < 0 → zW l Gr (zc n w) 168 M_Mo_view (d + 1) 29 [some (.ref 105), some (.int x1), some (.int x2), none, none, none, none, none, none] [.ref 105, .int x2] S Q) : zW l Gr (zc n w) 168 M_Mo_view (d + 1) 23 [some (.ref 105), some (.int x1), some (.int x2), none, none, none, none, none, none] [] S Q := by
  refine z_go (Gr := Gr) (zc := zc n w) (K := 168) oV_Mo_view 3 (pc' := 26) (L' := [some (.ref 105), some (.int x1), some (.int x2), none, none, none, none, none, none]) (st' := [.int x1, .ref 105, .int x2]) rfl ?_
  exact z_iflt (Gr := Gr) (tgt := 41) (oV_Mo_view.1 (26, .ifCond .lt 15) (ip_lk_mem rfl)) (by decide) (fun q => (k0 q)) (fun q => (k1 q))
set_option maxRecDepth 100000 in
theorem b_Mo_view_41 {l : Launch} {Gr : zG} {n w : Nat} {d : Nat} {S : zS} {Q : Option Value → zS → Prop} {x1 : Int32} {x2 : Int32} {s1 : Int32}  (k0 : zW l Gr (zc n w) 168 M_Mo_view (d + 1) 42 [some (.ref 105), some (.int x1), some (.int x2), none, none, none, none, none, none] [.int 0, .ref 105, .int s1] S Q) : zW l Gr (zc n w) 168 M_Mo_view (d + 1) 41 [some (.ref 105), some (.int x1), some (.int x2), none, none, none, none, none, none] [.ref 105, .int s1] S Q := by
  refine z_go (Gr := Gr) (zc := zc n w) (K := 168) oV_Mo_view 1 (pc' := 42) (L' := [some (.ref 105), some (.int x1), some (.int x2), none, none, none, none, none, none]) (st' := [.int 0, .ref 105, .int s1]) rfl ?_
  exact k0
set_option maxRecDepth 100000 in
theorem b_Mo_view_29 {l : Launch} {Gr : zG} {n w : Nat} {d : Nat} {S : zS} {Q : Option Value → zS → Prop} {x1 : Int32} {x2 : Int32} {s1 : Int32}  (k0 : (nI n) ≤ x1 → zW l Gr (zc n w) 168 M_Mo_view (d + 1) 41 [some (.ref 105), some (.int x1), some (.int x2), none, none, none, none, none, none] [.ref 105, .int s1] S Q) (k1 : ¬ (nI n) ≤ x1 → zW l Gr (zc n w) 168 M_Mo_view (d + 1) 37 [some (.ref 105), some (.int x1), some (.int x2), none, none, none, none, none, none] [.ref 105, .int s1] S Q) : zW l Gr (zc n w) 168 M_Mo_view (d + 1) 29 [some (.ref 105), some (.int x1), some (.int x2), none, none, none, none, none, none] [.ref 105, .int s1] S Q := by
  refine z_go (Gr := Gr) (zc := zc n w) (K := 168) oV_Mo_view 3 (pc' := 34) (L' := [some (.ref 105), some (.int x1), some (.int x2), none, none, none, none, none, none]) (st' := [.int (nI n), .int x1, .ref 105, .int s1]) rfl ?_
  exact z_icge (Gr := Gr) (tgt := 41) (oV_Mo_view.1 (34, .if_icmp .ge 7) (ip_lk_mem rfl)) (by decide) (fun q => (k0 q)) (fun q => (k1 q))
set_option maxRecDepth 100000 in
theorem b_Mo_view_42 {l : Launch} {Gr : zG} {n w : Nat} {d : Nat} {S : zS} {Q : Option Value → zS → Prop} {R : Int32 → zS → Prop} (hg : ip_gk (lg_tbl, vwCl, Gr)) {x1 : Int32} {x2 : Int32} {s0 : Int32} {s2 : Int32}  (k0 : zMi l Gr (zc n w) 168 M_Mo_viewBits d [.ref 105, .int s0] S R) (k1 : ∀ v S', R v S' → zW l Gr (zc n w) 168 M_Mo_view (d + 1) 45 [some (.ref 105), some (.int x1), some (.int x2), none, none, none, none, none, none] [.int v, .int s2] S' Q) : zW l Gr (zc n w) 168 M_Mo_view (d + 1) 42 [some (.ref 105), some (.int x1), some (.int x2), none, none, none, none, none, none] [.int s0, .ref 105, .int s2] S Q := by
  exact z_callV (Gr := Gr) hg.2.2.1 fT oM_Mo_viewBits (oV_Mo_view.1 (42, .invokevirtual 866) (ip_lk_mem rfl)) ⟨tt_11 _ (List.mem_of_getElem? (i := 31) rfl) rfl, tt_11 _ (List.mem_of_getElem? (i := 33) rfl) rfl, fS_Mo_viewBits⟩ (c := 73) (ci := 12) (As := [.int s0]) rfl rfl rfl (by decide) rfl (Nat.le_of_ble_eq_true rfl) k0 (fun v S' q => by obtain ⟨x, rfl, q⟩ := q; exact (k1 _ _ q))
set_option maxRecDepth 100000 in
theorem b_Mo_view_37 {l : Launch} {Gr : zG} {n w : Nat} {d : Nat} {S : zS} {Q : Option Value → zS → Prop} {x1 : Int32} {x2 : Int32} {s1 : Int32}  (k0 : zW l Gr (zc n w) 168 M_Mo_view (d + 1) 42 [some (.ref 105), some (.int x1), some (.int x2), none, none, none, none, none, none] [.int x1, .ref 105, .int s1] S Q) : zW l Gr (zc n w) 168 M_Mo_view (d + 1) 37 [some (.ref 105), some (.int x1), some (.int x2), none, none, none, none, none, none] [.ref 105, .int s1] S Q := by
  refine z_go (Gr := Gr) (zc := zc n w) (K := 168) oV_Mo_view 2 (pc' := 42) (L' := [some (.ref 105), some (.int x1), some (.int x2), none, none, none, none, none, none]) (st' := [.int x1, .ref 105, .int s1]) rfl ?_
  exact k0
set_option maxRecDepth 100000 in
theorem b_Mo_view_45 {l : Launch} {Gr : zG} {n w : Nat} {d : Nat} {S : zS} {Q : Option Value → zS → Prop} {x1 : Int32} {x2 : Int32} {s0 : Int32} {s1 : Int32}  (k0 : s1 < s0 → zW l Gr (zc n w) 168 M_Mo_view (d + 1) 50 [some (.ref 105), some (.int x1), some (.int x2), none, none, none, none, none, none] [] S Q) (k1 : ¬ s1 < s0 → zW l Gr (zc n w) 168 M_Mo_view (d + 1) 48 [none, none, none, none, none, none, none, none, none] [] S Q) : zW l Gr (zc n w) 168 M_Mo_view (d + 1) 45 [some (.ref 105), some (.int x1), some (.int x2), none, none, none, none, none, none] [.int s0, .int s1] S Q := by
  exact z_iclt (Gr := Gr) (tgt := 50) (oV_Mo_view.1 (45, .if_icmp .lt 5) (ip_lk_mem rfl)) (by decide) (fun q => (k0 q)) (fun q => (z_forget (k1 q) trivial))
set_option maxRecDepth 100000 in
theorem b_Mo_view_50 {l : Launch} {Gr : zG} {n w : Nat} {d : Nat} {S : zS} {Q : Option Value → zS → Prop} {x1 : Int32} {x2 : Int32} (g0 : vp_in x1 16) (k0 : ((S.1 167 ((x1 : Int32).toNatClampNeg)) * (nI n)) ≤ x2 → zW l Gr (zc n w) 168 M_Mo_view (d + 1) 234 [some (.ref 105), some (.int x1), none, some (.int x2), some (.int (S.1 167 ((x1 : Int32).toNatClampNeg))), none, none, none, none] [] S Q) (k1 : ¬ ((S.1 167 ((x1 : Int32).toNatClampNeg)) * (nI n)) ≤ x2 → zW l Gr (zc n w) 168 M_Mo_view (d + 1) 71 [some (.ref 105), some (.int x1), none, some (.int x2), some (.int (S.1 167 ((x1 : Int32).toNatClampNeg))), none, none, none, none] [] S Q) : zW l Gr (zc n w) 168 M_Mo_view (d + 1) 50 [some (.ref 105), some (.int x1), some (.int x2), none, none, none, none, none, none] [] S Q := by
  refine z_go (Gr := Gr) (zc := zc n w) (K := 168) oV_Mo_view 5 (pc' := 57) (L' := [some (.ref 105), some (.int x1), some (.int x2), some (.int x2), none, none, none, none, none]) (st' := [.int x1, .ref 199]) rfl ?_
  refine z_iald (Gr := Gr) (c := 167) (oV_Mo_view.1 (57, .iaload) (ip_lk_mem rfl)) (by decide) rfl g0 ?_
  refine z_go (Gr := Gr) (zc := zc n w) (K := 168) oV_Mo_view 6 (pc' := 68) (L' := [some (.ref 105), some (.int x1), some (.int x2), some (.int x2), some (.int (S.1 167 ((x1 : Int32).toNatClampNeg))), none, none, none, none]) (st' := [.int ((S.1 167 ((x1 : Int32).toNatClampNeg)) * (nI n)), .int x2]) rfl ?_
  exact z_icge (Gr := Gr) (tgt := 234) (oV_Mo_view.1 (68, .if_icmp .ge 166) (ip_lk_mem rfl)) (by decide) (fun q => (z_forget (k0 q) (And.intro rfl (And.intro rfl (And.intro rfl (And.intro rfl trivial)))))) (fun q => (z_forget (k1 q) (And.intro rfl (And.intro rfl (And.intro rfl (And.intro rfl trivial))))))
set_option maxRecDepth 100000 in
theorem b_Mo_view_234 {l : Launch} {Gr : zG} {n w : Nat} {d : Nat} {S : zS} {Q : Option Value → zS → Prop} {x1 : Int32} {x3 : Int32} {x4 : Int32}  (k0 : (3 * (S.1 73 67)) ≤ (x3 - (x4 * (nI n))) → zW l Gr (zc n w) 168 M_Mo_view (d + 1) 341 [some (.ref 105), some (.int x1), none, some (.int (x3 - (x4 * (nI n)))), none, none, none, none, none] [] S Q) (k1 : ¬ (3 * (S.1 73 67)) ≤ (x3 - (x4 * (nI n))) → zW l Gr (zc n w) 168 M_Mo_view (d + 1) 254 [some (.ref 105), some (.int x1), none, some (.int (x3 - (x4 * (nI n)))), none, none, none, none, none] [] S Q) : zW l Gr (zc n w) 168 M_Mo_view (d + 1) 234 [some (.ref 105), some (.int x1), none, some (.int x3), some (.int x4), none, none, none, none] [] S Q := by
  refine z_go (Gr := Gr) (zc := zc n w) (K := 168) oV_Mo_view 12 (pc' := 251) (L' := [some (.ref 105), some (.int x1), none, some (.int (x3 - (x4 * (nI n)))), some (.int x4), none, none, none, none]) (st' := [.int (3 * (S.1 73 67)), .int (x3 - (x4 * (nI n)))]) rfl ?_
  exact z_icge (Gr := Gr) (tgt := 341) (oV_Mo_view.1 (251, .if_icmp .ge 90) (ip_lk_mem rfl)) (by decide) (fun q => (z_forget (k0 q) (And.intro rfl (And.intro rfl (And.intro rfl trivial))))) (fun q => (z_forget (k1 q) (And.intro rfl (And.intro rfl (And.intro rfl trivial)))))
set_option maxRecDepth 100000 in
theorem b_Mo_view_71 {l : Launch} {Gr : zG} {n w : Nat} {d : Nat} {S : zS} {Q : Option Value → zS → Prop} {x1 : Int32} {x3 : Int32} {x4 : Int32}  (k0 : x3 < x4 → zW l Gr (zc n w) 168 M_Mo_view (d + 1) 81 [some (.ref 105), some (.int x1), none, some (.int x3), some (.int x4), none, none, none, none] [] S Q) (k1 : ¬ x3 < x4 → zW l Gr (zc n w) 168 M_Mo_view (d + 1) 77 [some (.ref 105), some (.int x1), none, some (.int x3), some (.int x4), none, none, none, none] [] S Q) : zW l Gr (zc n w) 168 M_Mo_view (d + 1) 71 [some (.ref 105), some (.int x1), none, some (.int x3), some (.int x4), none, none, none, none] [] S Q := by
  refine z_go (Gr := Gr) (zc := zc n w) (K := 168) oV_Mo_view 2 (pc' := 74) (L' := [some (.ref 105), some (.int x1), none, some (.int x3), some (.int x4), none, none, none, none]) (st' := [.int x4, .int x3]) rfl ?_
  exact z_iclt (Gr := Gr) (tgt := 81) (oV_Mo_view.1 (74, .if_icmp .lt 7) (ip_lk_mem rfl)) (by decide) (fun q => (k0 q)) (fun q => (k1 q))
set_option maxRecDepth 100000 in
theorem b_Mo_view_341 {l : Launch} {Gr : zG} {n w : Nat} {d : Nat} {S : zS} {Q : Option Value → zS → Prop} {x1 : Int32} {x3 : Int32}  (k0 : zW l Gr (zc n w) 168 M_Mo_view (d + 1) 357 [some (.ref 105), some (.int x1), none, some (.int (x3 - (3 * (S.1 73 67)))), none, some (.int (30060 * x1)), none, none, none] [] S Q) : zW l Gr (zc n w) 168 M_Mo_view (d + 1) 341 [some (.ref 105), some (.int x1), none, some (.int x3), none, none, none, none, none] [] S Q := by
  refine z_go (Gr := Gr) (zc := zc n w) (K := 168) oV_Mo_view 11 (pc' := 357) (L' := [some (.ref 105), some (.int x1), none, some (.int (x3 - (3 * (S.1 73 67)))), none, some (.int (30060 * x1)), none, none, none]) (st' := []) rfl ?_
  exact k0
set_option maxRecDepth 100000 in
theorem b_Mo_view_254 {l : Launch} {Gr : zG} {n w : Nat} {d : Nat} {S : zS} {Q : Option Value → zS → Prop} {x1 : Int32} {x3 : Int32}  (k0 : zW l Gr (zc n w) 168 M_Mo_view (d + 1) 260 [some (.ref 105), some (.int x1), none, some (.int x3), none, some (.int 0), some (.int 0), none, none] [] S Q) : zW l Gr (zc n w) 168 M_Mo_view (d + 1) 254 [some (.ref 105), some (.int x1), none, some (.int x3), none, none, none, none, none] [] S Q := by
  refine z_go (Gr := Gr) (zc := zc n w) (K := 168) oV_Mo_view 4 (pc' := 260) (L' := [some (.ref 105), some (.int x1), none, some (.int x3), none, some (.int 0), some (.int 0), none, none]) (st' := []) rfl ?_
  exact k0
set_option maxRecDepth 100000 in
theorem b_Mo_view_81 {l : Launch} {Gr : zG} {n w : Nat} {d : Nat} {S : zS} {Q : Option Value → zS → Prop} {x1 : Int32} {x3 : Int32} {x4 : Int32}  (k0 : zW l Gr (zc n w) 168 M_Mo_view (d + 1) 82 [some (.ref 105), some (.int x1), none, some (.int x3), some (.int x4), none, none, none, none] [.int 0] S Q) : zW l Gr (zc n w) 168 M_Mo_view (d + 1) 81 [some (.ref 105), some (.int x1), none, some (.int x3), some (.int x4), none, none, none, none] [] S Q := by
  refine z_go (Gr := Gr) (zc := zc n w) (K := 168) oV_Mo_view 1 (pc' := 82) (L' := [some (.ref 105), some (.int x1), none, some (.int x3), some (.int x4), none, none, none, none]) (st' := [.int 0]) rfl ?_
  exact k0
set_option maxRecDepth 100000 in
theorem b_Mo_view_77 {l : Launch} {Gr : zG} {n w : Nat} {d : Nat} {S : zS} {Q : Option Value → zS → Prop} {x1 : Int32} {x3 : Int32} {x4 : Int32}  (k0 : zW l Gr (zc n w) 168 M_Mo_view (d + 1) 82 [some (.ref 105), some (.int x1), none, some (.int x3), some (.int x4), none, none, none, none] [.int 1] S Q) : zW l Gr (zc n w) 168 M_Mo_view (d + 1) 77 [some (.ref 105), some (.int x1), none, some (.int x3), some (.int x4), none, none, none, none] [] S Q := by
  refine z_go (Gr := Gr) (zc := zc n w) (K := 168) oV_Mo_view 2 (pc' := 82) (L' := [some (.ref 105), some (.int x1), none, some (.int x3), some (.int x4), none, none, none, none]) (st' := [.int 1]) rfl ?_
  exact k0
set_option maxRecDepth 100000 in
theorem b_Mo_view_357 {l : Launch} {Gr : zG} {n w : Nat} {d : Nat} {S : zS} {Q : Option Value → zS → Prop} {R : Int32 → zS → Prop} (hg : ip_gk (lg_tbl, vwCl, Gr)) {x1 : Int32} {x3 : Int32} {x5 : Int32} (g0 : vp_in x5 481000) (k0 : zMi l Gr (zc n w) 168 M_Mo_lengthOf d [.ref 105, .int (S.1 162 ((x5 : Int32).toNatClampNeg)), .int (S.1 163 ((x5 : Int32).toNatClampNeg))] S R) (k1 : ∀ v S', R v S' → zW l Gr (zc n w) 168 M_Mo_view (d + 1) 376 [some (.ref 105), some (.int x1), none, some (.int x3), none, some (.int x5), none, none, none] [.int v, .int x3] S' Q) : zW l Gr (zc n w) 168 M_Mo_view (d + 1) 357 [some (.ref 105), some (.int x1), none, some (.int x3), none, some (.int x5), none, none, none] [] S Q := by
  refine z_go (Gr := Gr) (zc := zc n w) (K := 168) oV_Mo_view 5 (pc' := 365) (L' := [some (.ref 105), some (.int x1), none, some (.int x3), none, some (.int x5), none, none, none]) (st' := [.int x5, .ref 194, .ref 105, .int x3]) rfl ?_
  refine z_iald (Gr := Gr) (c := 162) (oV_Mo_view.1 (365, .iaload) (ip_lk_mem rfl)) (by decide) rfl g0 ?_
  refine z_go (Gr := Gr) (zc := zc n w) (K := 168) oV_Mo_view 3 (pc' := 372) (L' := [some (.ref 105), some (.int x1), none, some (.int x3), none, some (.int x5), none, none, none]) (st' := [.int x5, .ref 195, .int (S.1 162 ((x5 : Int32).toNatClampNeg)), .ref 105, .int x3]) rfl ?_
  refine z_iald (Gr := Gr) (c := 163) (oV_Mo_view.1 (372, .iaload) (ip_lk_mem rfl)) (by decide) rfl g0 ?_
  exact z_callV (Gr := Gr) hg.2.2.1 fT oM_Mo_lengthOf (oV_Mo_view.1 (373, .invokevirtual 827) (ip_lk_mem rfl)) ⟨tt_11 _ (List.mem_of_getElem? (i := 7) rfl) rfl, tt_11 _ (List.mem_of_getElem? (i := 9) rfl) rfl, fS_Mo_lengthOf⟩ (c := 73) (ci := 12) (As := [.int (S.1 162 ((x5 : Int32).toNatClampNeg)), .int (S.1 163 ((x5 : Int32).toNatClampNeg))]) rfl rfl rfl (by decide) rfl (Nat.le_of_ble_eq_true rfl) k0 (fun v S' q => by obtain ⟨x, rfl, q⟩ := q; exact (k1 _ _ q))
set_option maxRecDepth 100000 in
theorem b_Mo_view_260 {l : Launch} {Gr : zG} {n w : Nat} {d : Nat} {S : zS} {Q : Option Value → zS → Prop} {x1 : Int32} {x3 : Int32} {x5 : Int32} {x6 : Int32} (g0 : vp_in x5 40000) (k0 : (S.1 111 ((x5 : Int32).toNatClampNeg)) = 0 → zW l Gr (zc n w) 168 M_Mo_view (d + 1) 278 [some (.ref 105), some (.int x1), none, some (.int x3), none, some (.int x5), some (.int x6), none, none] [] S Q) (k1 : ¬ (S.1 111 ((x5 : Int32).toNatClampNeg)) = 0 → zW l Gr (zc n w) 168 M_Mo_view (d + 1) 270 [some (.ref 105), some (.int x1), none, some (.int x3), none, some (.int x5), some (.int x6), none, none] [] S Q) : zW l Gr (zc n w) 168 M_Mo_view (d + 1) 260 [some (.ref 105), some (.int x1), none, some (.int x3), none, some (.int x5), some (.int x6), none, none] [] S Q := by
  refine z_go (Gr := Gr) (zc := zc n w) (K := 168) oV_Mo_view 3 (pc' := 266) (L' := [some (.ref 105), some (.int x1), none, some (.int x3), none, some (.int x5), some (.int x6), none, none]) (st' := [.int x5, .ref 143]) rfl ?_
  refine z_iald (Gr := Gr) (c := 111) (oV_Mo_view.1 (266, .iaload) (ip_lk_mem rfl)) (by decide) rfl g0 ?_
  exact z_ifeq (Gr := Gr) (tgt := 278) (oV_Mo_view.1 (267, .ifCond .eq 11) (ip_lk_mem rfl)) (by decide) (fun q => (k0 q)) (fun q => (k1 q))
set_option maxRecDepth 100000 in
theorem b_Mo_view_82 {l : Launch} {Gr : zG} {n w : Nat} {d : Nat} {S : zS} {Q : Option Value → zS → Prop} {x1 : Int32} {x3 : Int32} {x4 : Int32} {s0 : Int32}  (k0 : s0 = 0 → zW l Gr (zc n w) 168 M_Mo_view (d + 1) 103 [some (.ref 105), some (.int x1), none, some (.int x3), some (.int x4), some (.int s0), none, none, none] [] S Q) (k1 : ¬ s0 = 0 → zW l Gr (zc n w) 168 M_Mo_view (d + 1) 89 [some (.ref 105), some (.int x1), none, some (.int x3), some (.int x4), some (.int s0), none, none, none] [] S Q) : zW l Gr (zc n w) 168 M_Mo_view (d + 1) 82 [some (.ref 105), some (.int x1), none, some (.int x3), some (.int x4), none, none, none, none] [.int s0] S Q := by
  refine z_go (Gr := Gr) (zc := zc n w) (K := 168) oV_Mo_view 2 (pc' := 86) (L' := [some (.ref 105), some (.int x1), none, some (.int x3), some (.int x4), some (.int s0), none, none, none]) (st' := [.int s0]) rfl ?_
  exact z_ifeq (Gr := Gr) (tgt := 103) (oV_Mo_view.1 (86, .ifCond .eq 17) (ip_lk_mem rfl)) (by decide) (fun q => (k0 q)) (fun q => (k1 q))
set_option maxRecDepth 100000 in
theorem b_Mo_view_376 {l : Launch} {Gr : zG} {n w : Nat} {d : Nat} {S : zS} {Q : Option Value → zS → Prop} {x1 : Int32} {x3 : Int32} {x5 : Int32} {s0 : Int32} {s1 : Int32}  (k0 : s1 < s0 → zW l Gr (zc n w) 168 M_Mo_view (d + 1) 406 [some (.ref 105), some (.int x1), none, some (.int x3), none, some (.int x5), none, none, none] [] S Q) (k1 : ¬ s1 < s0 → zW l Gr (zc n w) 168 M_Mo_view (d + 1) 379 [some (.ref 105), some (.int x1), none, some (.int x3), none, some (.int x5), none, none, none] [] S Q) : zW l Gr (zc n w) 168 M_Mo_view (d + 1) 376 [some (.ref 105), some (.int x1), none, some (.int x3), none, some (.int x5), none, none, none] [.int s0, .int s1] S Q := by
  exact z_iclt (Gr := Gr) (tgt := 406) (oV_Mo_view.1 (376, .if_icmp .lt 30) (ip_lk_mem rfl)) (by decide) (fun q => (k0 q)) (fun q => (k1 q))
set_option maxRecDepth 100000 in
theorem b_Mo_view_278 {l : Launch} {Gr : zG} {n w : Nat} {d : Nat} {S : zS} {Q : Option Value → zS → Prop} {x1 : Int32} {x3 : Int32} {x5 : Int32} {x6 : Int32} (g0 : vp_in x5 40000) (k0 : zW l Gr (zc n w) 168 M_Mo_view (d + 1) 260 [some (.ref 105), some (.int x1), none, some (.int x3), none, some (.int (x5 + Int32.ofInt 1)), some (.int (x6 + (S.1 111 ((x5 : Int32).toNatClampNeg)))), none, none] [] S Q) : zW l Gr (zc n w) 168 M_Mo_view (d + 1) 278 [some (.ref 105), some (.int x1), none, some (.int x3), none, some (.int x5), some (.int x6), none, none] [] S Q := by
  refine z_go (Gr := Gr) (zc := zc n w) (K := 168) oV_Mo_view 4 (pc' := 286) (L' := [some (.ref 105), some (.int x1), none, some (.int x3), none, some (.int x5), some (.int x6), none, none]) (st' := [.int x5, .ref 143, .int x6]) rfl ?_
  refine z_iald (Gr := Gr) (c := 111) (oV_Mo_view.1 (286, .iaload) (ip_lk_mem rfl)) (by decide) rfl g0 ?_
  refine z_go (Gr := Gr) (zc := zc n w) (K := 168) oV_Mo_view 4 (pc' := 260) (L' := [some (.ref 105), some (.int x1), none, some (.int x3), none, some (.int (x5 + Int32.ofInt 1)), some (.int (x6 + (S.1 111 ((x5 : Int32).toNatClampNeg)))), none, none]) (st' := []) rfl ?_
  exact k0
set_option maxRecDepth 100000 in
theorem b_Mo_view_270 {l : Launch} {Gr : zG} {n w : Nat} {d : Nat} {S : zS} {Q : Option Value → zS → Prop} {x1 : Int32} {x3 : Int32} {x5 : Int32} {x6 : Int32}  (k0 : (x3 / 3) ≤ x6 → zW l Gr (zc n w) 168 M_Mo_view (d + 1) 296 [some (.ref 105), some (.int x1), none, some (.int x3), none, some (.int x5), none, none, none] [] S Q) (k1 : ¬ (x3 / 3) ≤ x6 → zW l Gr (zc n w) 168 M_Mo_view (d + 1) 278 [some (.ref 105), some (.int x1), none, some (.int x3), none, some (.int x5), some (.int x6), none, none] [] S Q) : zW l Gr (zc n w) 168 M_Mo_view (d + 1) 270 [some (.ref 105), some (.int x1), none, some (.int x3), none, some (.int x5), some (.int x6), none, none] [] S Q := by
  refine z_go (Gr := Gr) (zc := zc n w) (K := 168) oV_Mo_view 3 (pc' := 274) (L' := [some (.ref 105), some (.int x1), none, some (.int x3), none, some (.int x5), some (.int x6), none, none]) (st' := [.int 3, .int x3, .int x6]) rfl ?_
  refine z_idiv (Gr := Gr) (oV_Mo_view.1 (274, .idiv) (ip_lk_mem rfl)) (by decide) ?_
  exact z_icge (Gr := Gr) (tgt := 296) (oV_Mo_view.1 (275, .if_icmp .ge 21) (ip_lk_mem rfl)) (by decide) (fun q => (z_forget (k0 q) (And.intro rfl (And.intro rfl (And.intro rfl (And.intro rfl trivial)))))) (fun q => (k1 q))
set_option maxRecDepth 100000 in
theorem b_Mo_view_103 {l : Launch} {Gr : zG} {n w : Nat} {d : Nat} {S : zS} {Q : Option Value → zS → Prop} {x1 : Int32} {x3 : Int32} {x4 : Int32} {x5 : Int32}  (k0 : zW l Gr (zc n w) 168 M_Mo_view (d + 1) 104 [some (.ref 105), some (.int x1), none, some (.int x3), some (.int x4), some (.int x5), none, none, none] [.int x3] S Q) : zW l Gr (zc n w) 168 M_Mo_view (d + 1) 103 [some (.ref 105), some (.int x1), none, some (.int x3), some (.int x4), some (.int x5), none, none, none] [] S Q := by
  refine z_go (Gr := Gr) (zc := zc n w) (K := 168) oV_Mo_view 1 (pc' := 104) (L' := [some (.ref 105), some (.int x1), none, some (.int x3), some (.int x4), some (.int x5), none, none, none]) (st' := [.int x3]) rfl ?_
  exact k0
set_option maxRecDepth 100000 in
theorem b_Mo_view_89 {l : Launch} {Gr : zG} {n w : Nat} {d : Nat} {S : zS} {Q : Option Value → zS → Prop} {x1 : Int32} {x3 : Int32} {x4 : Int32} {x5 : Int32} (g0 : ¬ (((nI n) - 1) : Int32) = 0) (k0 : zW l Gr (zc n w) 168 M_Mo_view (d + 1) 104 [some (.ref 105), some (.int x1), none, some (.int x3), some (.int x4), some (.int x5), none, none, none] [.int ((x3 - x4) / ((nI n) - 1))] S Q) : zW l Gr (zc n w) 168 M_Mo_view (d + 1) 89 [some (.ref 105), some (.int x1), none, some (.int x3), some (.int x4), some (.int x5), none, none, none] [] S Q := by
  refine z_go (Gr := Gr) (zc := zc n w) (K := 168) oV_Mo_view 7 (pc' := 99) (L' := [some (.ref 105), some (.int x1), none, some (.int x3), some (.int x4), some (.int x5), none, none, none]) (st' := [.int ((nI n) - 1), .int (x3 - x4)]) rfl ?_
  refine z_idiv (Gr := Gr) (oV_Mo_view.1 (99, .idiv) (ip_lk_mem rfl)) g0 ?_
  refine z_go (Gr := Gr) (zc := zc n w) (K := 168) oV_Mo_view 1 (pc' := 104) (L' := [some (.ref 105), some (.int x1), none, some (.int x3), some (.int x4), some (.int x5), none, none, none]) (st' := [.int ((x3 - x4) / ((nI n) - 1))]) rfl ?_
  exact k0
set_option maxRecDepth 100000 in
theorem b_Mo_view_406 {l : Launch} {Gr : zG} {n w : Nat} {d : Nat} {S : zS} {Q : Option Value → zS → Prop} {R : Int32 → zS → Prop} (hg : ip_gk (lg_tbl, vwCl, Gr)) {x1 : Int32} {x3 : Int32} {x5 : Int32} (g0 : vp_in x5 481000) (k0 : zMi l Gr (zc n w) 168 M_Mo_sentBit d [.ref 105, .int (S.1 162 ((x5 : Int32).toNatClampNeg)), .int x1, .int (S.1 163 ((x5 : Int32).toNatClampNeg)), .int x3] S R) (k1 : ∀ v S', R v S' → zW l Gr (zc n w) 168 M_Mo_view (d + 1) 426 [none, none, none, none, none, none, none, none, none] [.int v] S' Q) : zW l Gr (zc n w) 168 M_Mo_view (d + 1) 406 [some (.ref 105), some (.int x1), none, some (.int x3), none, some (.int x5), none, none, none] [] S Q := by
  refine z_go (Gr := Gr) (zc := zc n w) (K := 168) oV_Mo_view 4 (pc' := 413) (L' := [some (.ref 105), some (.int x1), none, some (.int x3), none, some (.int x5), none, none, none]) (st' := [.int x5, .ref 194, .ref 105]) rfl ?_
  refine z_iald (Gr := Gr) (c := 162) (oV_Mo_view.1 (413, .iaload) (ip_lk_mem rfl)) (by decide) rfl g0 ?_
  refine z_go (Gr := Gr) (zc := zc n w) (K := 168) oV_Mo_view 4 (pc' := 421) (L' := [some (.ref 105), some (.int x1), none, some (.int x3), none, some (.int x5), none, none, none]) (st' := [.int x5, .ref 195, .int x1, .int (S.1 162 ((x5 : Int32).toNatClampNeg)), .ref 105]) rfl ?_
  refine z_iald (Gr := Gr) (c := 163) (oV_Mo_view.1 (421, .iaload) (ip_lk_mem rfl)) (by decide) rfl g0 ?_
  refine z_go (Gr := Gr) (zc := zc n w) (K := 168) oV_Mo_view 1 (pc' := 423) (L' := [some (.ref 105), some (.int x1), none, some (.int x3), none, some (.int x5), none, none, none]) (st' := [.int x3, .int (S.1 163 ((x5 : Int32).toNatClampNeg)), .int x1, .int (S.1 162 ((x5 : Int32).toNatClampNeg)), .ref 105]) rfl ?_
  exact z_callV (Gr := Gr) hg.2.2.1 fT oM_Mo_sentBit (oV_Mo_view.1 (423, .invokevirtual 860) (ip_lk_mem rfl)) ⟨tt_11 _ (List.mem_of_getElem? (i := 11) rfl) rfl, tt_11 _ (List.mem_of_getElem? (i := 13) rfl) rfl, fS_Mo_sentBit⟩ (c := 73) (ci := 12) (As := [.int (S.1 162 ((x5 : Int32).toNatClampNeg)), .int x1, .int (S.1 163 ((x5 : Int32).toNatClampNeg)), .int x3]) rfl rfl rfl (by decide) rfl (Nat.le_of_ble_eq_true rfl) k0 (fun v S' q => by obtain ⟨x, rfl, q⟩ := q; exact (z_forget (k1 _ _ q) trivial))
set_option maxRecDepth 100000 in
theorem b_Mo_view_379 {l : Launch} {Gr : zG} {n w : Nat} {d : Nat} {S : zS} {Q : Option Value → zS → Prop} {R : Int32 → zS → Prop} (hg : ip_gk (lg_tbl, vwCl, Gr)) {x1 : Int32} {x3 : Int32} {x5 : Int32} (g0 : vp_in x5 481000) (k0 : zMi l Gr (zc n w) 168 M_Mo_lengthOf d [.ref 105, .int (S.1 162 ((x5 : Int32).toNatClampNeg)), .int (S.1 163 ((x5 : Int32).toNatClampNeg))] S R) (k1 : ∀ v S', R v S' → zW l Gr (zc n w) 168 M_Mo_view (d + 1) 398 [some (.ref 105), some (.int x1), none, none, none, some (.int x5), none, none, none] [.int v, .int x3] S' Q) : zW l Gr (zc n w) 168 M_Mo_view (d + 1) 379 [some (.ref 105), some (.int x1), none, some (.int x3), none, some (.int x5), none, none, none] [] S Q := by
  refine z_go (Gr := Gr) (zc := zc n w) (K := 168) oV_Mo_view 5 (pc' := 387) (L' := [some (.ref 105), some (.int x1), none, some (.int x3), none, some (.int x5), none, none, none]) (st' := [.int x5, .ref 194, .ref 105, .int x3]) rfl ?_
  refine z_iald (Gr := Gr) (c := 162) (oV_Mo_view.1 (387, .iaload) (ip_lk_mem rfl)) (by decide) rfl g0 ?_
  refine z_go (Gr := Gr) (zc := zc n w) (K := 168) oV_Mo_view 3 (pc' := 394) (L' := [some (.ref 105), some (.int x1), none, some (.int x3), none, some (.int x5), none, none, none]) (st' := [.int x5, .ref 195, .int (S.1 162 ((x5 : Int32).toNatClampNeg)), .ref 105, .int x3]) rfl ?_
  refine z_iald (Gr := Gr) (c := 163) (oV_Mo_view.1 (394, .iaload) (ip_lk_mem rfl)) (by decide) rfl g0 ?_
  exact z_callV (Gr := Gr) hg.2.2.1 fT oM_Mo_lengthOf (oV_Mo_view.1 (395, .invokevirtual 827) (ip_lk_mem rfl)) ⟨tt_11 _ (List.mem_of_getElem? (i := 7) rfl) rfl, tt_11 _ (List.mem_of_getElem? (i := 9) rfl) rfl, fS_Mo_lengthOf⟩ (c := 73) (ci := 12) (As := [.int (S.1 162 ((x5 : Int32).toNatClampNeg)), .int (S.1 163 ((x5 : Int32).toNatClampNeg))]) rfl rfl rfl (by decide) rfl (Nat.le_of_ble_eq_true rfl) k0 (fun v S' q => by obtain ⟨x, rfl, q⟩ := q; exact (z_forget (k1 _ _ q) (And.intro rfl (And.intro rfl (And.intro rfl trivial)))))
set_option maxRecDepth 100000 in
theorem b_Mo_view_296 {l : Launch} {Gr : zG} {n w : Nat} {d : Nat} {S : zS} {Q : Option Value → zS → Prop} {x1 : Int32} {x3 : Int32} {x5 : Int32}  (k0 : ¬ (x3 - x3 / 3 * 3) = 0 → zW l Gr (zc n w) 168 M_Mo_view (d + 1) 312 [some (.ref 105), some (.int x1), none, some (.int x3), none, some (.int x5), none, none, none] [] S Q) (k1 : (x3 - x3 / 3 * 3) = 0 → zW l Gr (zc n w) 168 M_Mo_view (d + 1) 302 [some (.ref 105), some (.int x1), none, none, none, some (.int x5), none, none, none] [] S Q) : zW l Gr (zc n w) 168 M_Mo_view (d + 1) 296 [some (.ref 105), some (.int x1), none, some (.int x3), none, some (.int x5), none, none, none] [] S Q := by
  refine z_go (Gr := Gr) (zc := zc n w) (K := 168) oV_Mo_view 2 (pc' := 298) (L' := [some (.ref 105), some (.int x1), none, some (.int x3), none, some (.int x5), none, none, none]) (st' := [.int 3, .int x3]) rfl ?_
  refine z_irem (Gr := Gr) (oV_Mo_view.1 (298, .irem) (ip_lk_mem rfl)) (by decide) ?_
  exact z_ifne (Gr := Gr) (tgt := 312) (oV_Mo_view.1 (299, .ifCond .ne 13) (ip_lk_mem rfl)) (by decide) (fun q => (k0 q)) (fun q => (z_forget (k1 q) (And.intro rfl (And.intro rfl (And.intro rfl trivial)))))
set_option maxRecDepth 100000 in
theorem b_Mo_view_104 {l : Launch} {Gr : zG} {n w : Nat} {d : Nat} {S : zS} {Q : Option Value → zS → Prop} {x1 : Int32} {x3 : Int32} {x4 : Int32} {x5 : Int32} {s0 : Int32}  (k0 : zW l Gr (zc n w) 168 M_Mo_view (d + 1) 109 [some (.ref 105), some (.int x1), none, some (.int x3), some (.int x4), some (.int x5), some (.int s0), some (.int 0), none] [] S Q) : zW l Gr (zc n w) 168 M_Mo_view (d + 1) 104 [some (.ref 105), some (.int x1), none, some (.int x3), some (.int x4), some (.int x5), none, none, none] [.int s0] S Q := by
  refine z_go (Gr := Gr) (zc := zc n w) (K := 168) oV_Mo_view 3 (pc' := 109) (L' := [some (.ref 105), some (.int x1), none, some (.int x3), some (.int x4), some (.int x5), some (.int s0), some (.int 0), none]) (st' := []) rfl ?_
  exact k0
set_option maxRecDepth 100000 in
theorem b_Mo_view_426 {l : Launch} {Gr : zG} {n w : Nat} {d : Nat} {S : zS} {Q : Option Value → zS → Prop} {s0 : Int32}  (k0 : Q (some (.int s0)) S) : zW l Gr (zc n w) 168 M_Mo_view (d + 1) 426 [none, none, none, none, none, none, none, none, none] [.int s0] S Q := by
  exact z_ret (v := (some (.int s0))) (oV_Mo_view.1 (426, .ireturn) (ip_lk_mem rfl)) k0
set_option maxRecDepth 100000 in
theorem b_Mo_view_398 {l : Launch} {Gr : zG} {n w : Nat} {d : Nat} {S : zS} {Q : Option Value → zS → Prop} {x1 : Int32} {x5 : Int32} {s0 : Int32} {s1 : Int32}  (k0 : zW l Gr (zc n w) 168 M_Mo_view (d + 1) 357 [some (.ref 105), some (.int x1), none, some (.int (s1 - s0)), none, some (.int (x5 + Int32.ofInt 1)), none, none, none] [] S Q) : zW l Gr (zc n w) 168 M_Mo_view (d + 1) 398 [some (.ref 105), some (.int x1), none, none, none, some (.int x5), none, none, none] [.int s0, .int s1] S Q := by
  refine z_go (Gr := Gr) (zc := zc n w) (K := 168) oV_Mo_view 4 (pc' := 357) (L' := [some (.ref 105), some (.int x1), none, some (.int (s1 - s0)), none, some (.int (x5 + Int32.ofInt 1)), none, none, none]) (st' := []) rfl ?_
  exact k0
set_option maxRecDepth 100000 in
theorem b_Mo_view_312 {l : Launch} {Gr : zG} {n w : Nat} {d : Nat} {S : zS} {Q : Option Value → zS → Prop} {x1 : Int32} {x3 : Int32} {x5 : Int32}  (k0 : ¬ (x3 - x3 / 3 * 3) = 1 → zW l Gr (zc n w) 168 M_Mo_view (d + 1) 329 [some (.ref 105), some (.int x1), none, none, none, some (.int x5), none, none, none] [] S Q) (k1 : (x3 - x3 / 3 * 3) = 1 → zW l Gr (zc n w) 168 M_Mo_view (d + 1) 319 [some (.ref 105), some (.int x1), none, none, none, some (.int x5), none, none, none] [] S Q) : zW l Gr (zc n w) 168 M_Mo_view (d + 1) 312 [some (.ref 105), some (.int x1), none, some (.int x3), none, some (.int x5), none, none, none] [] S Q := by
  refine z_go (Gr := Gr) (zc := zc n w) (K := 168) oV_Mo_view 2 (pc' := 314) (L' := [some (.ref 105), some (.int x1), none, some (.int x3), none, some (.int x5), none, none, none]) (st' := [.int 3, .int x3]) rfl ?_
  refine z_irem (Gr := Gr) (oV_Mo_view.1 (314, .irem) (ip_lk_mem rfl)) (by decide) ?_
  refine z_go (Gr := Gr) (zc := zc n w) (K := 168) oV_Mo_view 1 (pc' := 316) (L' := [some (.ref 105), some (.int x1), none, some (.int x3), none, some (.int x5), none, none, none]) (st' := [.int 1, .int (x3 - x3 / 3 * 3)]) rfl ?_
  exact z_icne (Gr := Gr) (tgt := 329) (oV_Mo_view.1 (316, .if_icmp .ne 13) (ip_lk_mem rfl)) (by decide) (fun q => (z_forget (k0 q) (And.intro rfl (And.intro rfl (And.intro rfl trivial))))) (fun q => (z_forget (k1 q) (And.intro rfl (And.intro rfl (And.intro rfl trivial)))))
set_option maxRecDepth 100000 in
theorem b_Mo_view_302 {l : Launch} {Gr : zG} {n w : Nat} {d : Nat} {S : zS} {Q : Option Value → zS → Prop} {x1 : Int32} {x5 : Int32} (g0 : vp_in x5 40000) (k0 : zW l Gr (zc n w) 168 M_Mo_view (d + 1) 336 [none, some (.int x1), none, none, none, none, none, none, none] [.int (S.1 152 ((x5 : Int32).toNatClampNeg))] S Q) : zW l Gr (zc n w) 168 M_Mo_view (d + 1) 302 [some (.ref 105), some (.int x1), none, none, none, some (.int x5), none, none, none] [] S Q := by
  refine z_go (Gr := Gr) (zc := zc n w) (K := 168) oV_Mo_view 3 (pc' := 308) (L' := [some (.ref 105), some (.int x1), none, none, none, some (.int x5), none, none, none]) (st' := [.int x5, .ref 184]) rfl ?_
  refine z_iald (Gr := Gr) (c := 152) (oV_Mo_view.1 (308, .iaload) (ip_lk_mem rfl)) (by decide) rfl g0 ?_
  refine z_go (Gr := Gr) (zc := zc n w) (K := 168) oV_Mo_view 1 (pc' := 336) (L' := [some (.ref 105), some (.int x1), none, none, none, some (.int x5), none, none, none]) (st' := [.int (S.1 152 ((x5 : Int32).toNatClampNeg))]) rfl ?_
  exact (z_forget k0 (And.intro rfl trivial))
set_option maxRecDepth 100000 in
theorem b_Mo_view_109 {l : Launch} {Gr : zG} {n w : Nat} {d : Nat} {S : zS} {Q : Option Value → zS → Prop} {x1 : Int32} {x3 : Int32} {x4 : Int32} {x5 : Int32} {x6 : Int32} {x7 : Int32} (g0 : vp_in x7 256) (k0 : ¬ (S.1 115 ((x7 : Int32).toNatClampNeg)) = x1 → zW l Gr (zc n w) 168 M_Mo_view (d + 1) 132 [some (.ref 105), some (.int x1), none, some (.int x3), some (.int x4), some (.int x5), some (.int x6), some (.int x7), none] [] S Q) (k1 : (S.1 115 ((x7 : Int32).toNatClampNeg)) = x1 → zW l Gr (zc n w) 168 M_Mo_view (d + 1) 120 [some (.ref 105), some (.int x1), none, some (.int x3), some (.int x4), some (.int x5), some (.int x6), some (.int x7), none] [] S Q) : zW l Gr (zc n w) 168 M_Mo_view (d + 1) 109 [some (.ref 105), some (.int x1), none, some (.int x3), some (.int x4), some (.int x5), some (.int x6), some (.int x7), none] [] S Q := by
  refine z_go (Gr := Gr) (zc := zc n w) (K := 168) oV_Mo_view 3 (pc' := 115) (L' := [some (.ref 105), some (.int x1), none, some (.int x3), some (.int x4), some (.int x5), some (.int x6), some (.int x7), none]) (st' := [.int x7, .ref 147]) rfl ?_
  refine z_iald (Gr := Gr) (c := 115) (oV_Mo_view.1 (115, .iaload) (ip_lk_mem rfl)) (by decide) rfl g0 ?_
  refine z_go (Gr := Gr) (zc := zc n w) (K := 168) oV_Mo_view 1 (pc' := 117) (L' := [some (.ref 105), some (.int x1), none, some (.int x3), some (.int x4), some (.int x5), some (.int x6), some (.int x7), none]) (st' := [.int x1, .int (S.1 115 ((x7 : Int32).toNatClampNeg))]) rfl ?_
  exact z_icne (Gr := Gr) (tgt := 132) (oV_Mo_view.1 (117, .if_icmp .ne 15) (ip_lk_mem rfl)) (by decide) (fun q => (k0 q)) (fun q => (k1 q))
set_option maxRecDepth 100000 in
theorem b_Mo_view_329 {l : Launch} {Gr : zG} {n w : Nat} {d : Nat} {S : zS} {Q : Option Value → zS → Prop} {x1 : Int32} {x5 : Int32} (g0 : vp_in x5 40000) (k0 : zW l Gr (zc n w) 168 M_Mo_view (d + 1) 336 [none, some (.int x1), none, none, none, none, none, none, none] [.int (S.1 154 ((x5 : Int32).toNatClampNeg))] S Q) : zW l Gr (zc n w) 168 M_Mo_view (d + 1) 329 [some (.ref 105), some (.int x1), none, none, none, some (.int x5), none, none, none] [] S Q := by
  refine z_go (Gr := Gr) (zc := zc n w) (K := 168) oV_Mo_view 3 (pc' := 335) (L' := [some (.ref 105), some (.int x1), none, none, none, some (.int x5), none, none, none]) (st' := [.int x5, .ref 186]) rfl ?_
  refine z_iald (Gr := Gr) (c := 154) (oV_Mo_view.1 (335, .iaload) (ip_lk_mem rfl)) (by decide) rfl g0 ?_
  exact (z_forget k0 (And.intro rfl trivial))
set_option maxRecDepth 100000 in
theorem b_Mo_view_319 {l : Launch} {Gr : zG} {n w : Nat} {d : Nat} {S : zS} {Q : Option Value → zS → Prop} {x1 : Int32} {x5 : Int32} (g0 : vp_in x5 40000) (k0 : zW l Gr (zc n w) 168 M_Mo_view (d + 1) 336 [none, some (.int x1), none, none, none, none, none, none, none] [.int (S.1 153 ((x5 : Int32).toNatClampNeg))] S Q) : zW l Gr (zc n w) 168 M_Mo_view (d + 1) 319 [some (.ref 105), some (.int x1), none, none, none, some (.int x5), none, none, none] [] S Q := by
  refine z_go (Gr := Gr) (zc := zc n w) (K := 168) oV_Mo_view 3 (pc' := 325) (L' := [some (.ref 105), some (.int x1), none, none, none, some (.int x5), none, none, none]) (st' := [.int x5, .ref 185]) rfl ?_
  refine z_iald (Gr := Gr) (c := 153) (oV_Mo_view.1 (325, .iaload) (ip_lk_mem rfl)) (by decide) rfl g0 ?_
  refine z_go (Gr := Gr) (zc := zc n w) (K := 168) oV_Mo_view 1 (pc' := 336) (L' := [some (.ref 105), some (.int x1), none, none, none, some (.int x5), none, none, none]) (st' := [.int (S.1 153 ((x5 : Int32).toNatClampNeg))]) rfl ?_
  exact (z_forget k0 (And.intro rfl trivial))
set_option maxRecDepth 100000 in
theorem b_Mo_view_336 {l : Launch} {Gr : zG} {n w : Nat} {d : Nat} {S : zS} {Q : Option Value → zS → Prop} {x1 : Int32} {s0 : Int32}  (k0 : Q (some (.int ((s0 >>> (x1 &&& 31)) &&& 1))) S) : zW l Gr (zc n w) 168 M_Mo_view (d + 1) 336 [none, some (.int x1), none, none, none, none, none, none, none] [.int s0] S Q := by
  refine z_go (Gr := Gr) (zc := zc n w) (K := 168) oV_Mo_view 4 (pc' := 340) (L' := [none, some (.int x1), none, none, none, none, none, none, none]) (st' := [.int ((s0 >>> (x1 &&& 31)) &&& 1)]) rfl ?_
  exact z_ret (v := (some (.int ((s0 >>> (x1 &&& 31)) &&& 1)))) (oV_Mo_view.1 (340, .ireturn) (ip_lk_mem rfl)) k0
set_option maxRecDepth 100000 in
theorem b_Mo_view_132 {l : Launch} {Gr : zG} {n w : Nat} {d : Nat} {S : zS} {Q : Option Value → zS → Prop} {x1 : Int32} {x3 : Int32} {x4 : Int32} {x5 : Int32} {x6 : Int32} {x7 : Int32} (g0 : vp_in x7 256) (k0 : ¬ (S.1 115 ((x7 : Int32).toNatClampNeg)) = x1 → zW l Gr (zc n w) 168 M_Mo_view (d + 1) 155 [some (.ref 105), some (.int x1), none, some (.int x3), some (.int x4), some (.int x5), none, some (.int x7), none] [.int x6] S Q) (k1 : (S.1 115 ((x7 : Int32).toNatClampNeg)) = x1 → zW l Gr (zc n w) 168 M_Mo_view (d + 1) 145 [some (.ref 105), some (.int x1), none, some (.int x3), some (.int x4), some (.int x5), none, some (.int x7), none] [.int x6] S Q) : zW l Gr (zc n w) 168 M_Mo_view (d + 1) 132 [some (.ref 105), some (.int x1), none, some (.int x3), some (.int x4), some (.int x5), some (.int x6), some (.int x7), none] [] S Q := by
  refine z_go (Gr := Gr) (zc := zc n w) (K := 168) oV_Mo_view 4 (pc' := 140) (L' := [some (.ref 105), some (.int x1), none, some (.int x3), some (.int x4), some (.int x5), some (.int x6), some (.int x7), none]) (st' := [.int x7, .ref 147, .int x6]) rfl ?_
  refine z_iald (Gr := Gr) (c := 115) (oV_Mo_view.1 (140, .iaload) (ip_lk_mem rfl)) (by decide) rfl g0 ?_
  refine z_go (Gr := Gr) (zc := zc n w) (K := 168) oV_Mo_view 1 (pc' := 142) (L' := [some (.ref 105), some (.int x1), none, some (.int x3), some (.int x4), some (.int x5), some (.int x6), some (.int x7), none]) (st' := [.int x1, .int (S.1 115 ((x7 : Int32).toNatClampNeg)), .int x6]) rfl ?_
  exact z_icne (Gr := Gr) (tgt := 155) (oV_Mo_view.1 (142, .if_icmp .ne 13) (ip_lk_mem rfl)) (by decide) (fun q => (z_forget (k0 q) (And.intro rfl (And.intro rfl (And.intro rfl (And.intro rfl (And.intro rfl (And.intro rfl trivial)))))))) (fun q => (z_forget (k1 q) (And.intro rfl (And.intro rfl (And.intro rfl (And.intro rfl (And.intro rfl (And.intro rfl trivial))))))))
set_option maxRecDepth 100000 in
theorem b_Mo_view_120 {l : Launch} {Gr : zG} {n w : Nat} {d : Nat} {S : zS} {Q : Option Value → zS → Prop} {x1 : Int32} {x3 : Int32} {x4 : Int32} {x5 : Int32} {x6 : Int32} {x7 : Int32} (g0 : vp_in x7 256) (k0 : x6 < (S.1 116 ((x7 : Int32).toNatClampNeg)) → zW l Gr (zc n w) 168 M_Mo_view (d + 1) 165 [some (.ref 105), some (.int x1), none, some (.int x3), some (.int x4), some (.int x5), some (.int x6), some (.int x7), none] [] S Q) (k1 : ¬ x6 < (S.1 116 ((x7 : Int32).toNatClampNeg)) → zW l Gr (zc n w) 168 M_Mo_view (d + 1) 132 [some (.ref 105), some (.int x1), none, some (.int x3), some (.int x4), some (.int x5), some (.int x6), some (.int x7), none] [] S Q) : zW l Gr (zc n w) 168 M_Mo_view (d + 1) 120 [some (.ref 105), some (.int x1), none, some (.int x3), some (.int x4), some (.int x5), some (.int x6), some (.int x7), none] [] S Q := by
  refine z_go (Gr := Gr) (zc := zc n w) (K := 168) oV_Mo_view 4 (pc' := 128) (L' := [some (.ref 105), some (.int x1), none, some (.int x3), some (.int x4), some (.int x5), some (.int x6), some (.int x7), none]) (st' := [.int x7, .ref 148, .int x6]) rfl ?_
  refine z_iald (Gr := Gr) (c := 116) (oV_Mo_view.1 (128, .iaload) (ip_lk_mem rfl)) (by decide) rfl g0 ?_
  exact z_iclt (Gr := Gr) (tgt := 165) (oV_Mo_view.1 (129, .if_icmp .lt 36) (ip_lk_mem rfl)) (by decide) (fun q => (k0 q)) (fun q => (k1 q))
set_option maxRecDepth 100000 in
theorem b_Mo_view_155 {l : Launch} {Gr : zG} {n w : Nat} {d : Nat} {S : zS} {Q : Option Value → zS → Prop} {x1 : Int32} {x3 : Int32} {x4 : Int32} {x5 : Int32} {x7 : Int32} {s0 : Int32}  (k0 : zW l Gr (zc n w) 168 M_Mo_view (d + 1) 156 [some (.ref 105), some (.int x1), none, some (.int x3), some (.int x4), some (.int x5), none, some (.int x7), none] [.int 0, .int s0] S Q) : zW l Gr (zc n w) 168 M_Mo_view (d + 1) 155 [some (.ref 105), some (.int x1), none, some (.int x3), some (.int x4), some (.int x5), none, some (.int x7), none] [.int s0] S Q := by
  refine z_go (Gr := Gr) (zc := zc n w) (K := 168) oV_Mo_view 1 (pc' := 156) (L' := [some (.ref 105), some (.int x1), none, some (.int x3), some (.int x4), some (.int x5), none, some (.int x7), none]) (st' := [.int 0, .int s0]) rfl ?_
  exact k0
set_option maxRecDepth 100000 in
theorem b_Mo_view_145 {l : Launch} {Gr : zG} {n w : Nat} {d : Nat} {S : zS} {Q : Option Value → zS → Prop} {x1 : Int32} {x3 : Int32} {x4 : Int32} {x5 : Int32} {x7 : Int32} {s0 : Int32} (g0 : vp_in x7 256) (k0 : zW l Gr (zc n w) 168 M_Mo_view (d + 1) 156 [some (.ref 105), some (.int x1), none, some (.int x3), some (.int x4), some (.int x5), none, some (.int x7), none] [.int (S.1 116 ((x7 : Int32).toNatClampNeg)), .int s0] S Q) : zW l Gr (zc n w) 168 M_Mo_view (d + 1) 145 [some (.ref 105), some (.int x1), none, some (.int x3), some (.int x4), some (.int x5), none, some (.int x7), none] [.int s0] S Q := by
  refine z_go (Gr := Gr) (zc := zc n w) (K := 168) oV_Mo_view 3 (pc' := 151) (L' := [some (.ref 105), some (.int x1), none, some (.int x3), some (.int x4), some (.int x5), none, some (.int x7), none]) (st' := [.int x7, .ref 148, .int s0]) rfl ?_
  refine z_iald (Gr := Gr) (c := 116) (oV_Mo_view.1 (151, .iaload) (ip_lk_mem rfl)) (by decide) rfl g0 ?_
  refine z_go (Gr := Gr) (zc := zc n w) (K := 168) oV_Mo_view 1 (pc' := 156) (L' := [some (.ref 105), some (.int x1), none, some (.int x3), some (.int x4), some (.int x5), none, some (.int x7), none]) (st' := [.int (S.1 116 ((x7 : Int32).toNatClampNeg)), .int s0]) rfl ?_
  exact k0
set_option maxRecDepth 100000 in
theorem b_Mo_view_165 {l : Launch} {Gr : zG} {n w : Nat} {d : Nat} {S : zS} {Q : Option Value → zS → Prop} {x1 : Int32} {x3 : Int32} {x4 : Int32} {x5 : Int32} {x6 : Int32} {x7 : Int32}  (k0 : ¬ x5 = 0 → zW l Gr (zc n w) 168 M_Mo_view (d + 1) 184 [some (.ref 105), some (.int x1), none, some (.int x3), some (.int x4), none, some (.int x6), some (.int x7), none] [] S Q) (k1 : x5 = 0 → zW l Gr (zc n w) 168 M_Mo_view (d + 1) 170 [some (.ref 105), none, none, none, none, none, some (.int x6), some (.int x7), none] [] S Q) : zW l Gr (zc n w) 168 M_Mo_view (d + 1) 165 [some (.ref 105), some (.int x1), none, some (.int x3), some (.int x4), some (.int x5), some (.int x6), some (.int x7), none] [] S Q := by
  refine z_go (Gr := Gr) (zc := zc n w) (K := 168) oV_Mo_view 1 (pc' := 167) (L' := [some (.ref 105), some (.int x1), none, some (.int x3), some (.int x4), some (.int x5), some (.int x6), some (.int x7), none]) (st' := [.int x5]) rfl ?_
  exact z_ifne (Gr := Gr) (tgt := 184) (oV_Mo_view.1 (167, .ifCond .ne 17) (ip_lk_mem rfl)) (by decide) (fun q => (z_forget (k0 q) (And.intro rfl (And.intro rfl (And.intro rfl (And.intro rfl (And.intro rfl (And.intro rfl trivial)))))))) (fun q => (z_forget (k1 q) (And.intro rfl (And.intro rfl (And.intro rfl trivial)))))
set_option maxRecDepth 100000 in
theorem b_Mo_view_156 {l : Launch} {Gr : zG} {n w : Nat} {d : Nat} {S : zS} {Q : Option Value → zS → Prop} {x1 : Int32} {x3 : Int32} {x4 : Int32} {x5 : Int32} {x7 : Int32} {s0 : Int32} {s1 : Int32}  (k0 : zW l Gr (zc n w) 168 M_Mo_view (d + 1) 109 [some (.ref 105), some (.int x1), none, some (.int x3), some (.int x4), some (.int x5), some (.int (s1 - s0)), some (.int (x7 + Int32.ofInt 1)), none] [] S Q) : zW l Gr (zc n w) 168 M_Mo_view (d + 1) 156 [some (.ref 105), some (.int x1), none, some (.int x3), some (.int x4), some (.int x5), none, some (.int x7), none] [.int s0, .int s1] S Q := by
  refine z_go (Gr := Gr) (zc := zc n w) (K := 168) oV_Mo_view 4 (pc' := 109) (L' := [some (.ref 105), some (.int x1), none, some (.int x3), some (.int x4), some (.int x5), some (.int (s1 - s0)), some (.int (x7 + Int32.ofInt 1)), none]) (st' := []) rfl ?_
  exact k0
set_option maxRecDepth 100000 in
theorem b_Mo_view_184 {l : Launch} {Gr : zG} {n w : Nat} {d : Nat} {S : zS} {Q : Option Value → zS → Prop} {x1 : Int32} {x3 : Int32} {x4 : Int32} {x6 : Int32} {x7 : Int32} (g0 : ¬ (((nI n) - 1) : Int32) = 0) (k0 : ((x3 - x4) - (x3 - x4) / ((nI n) - 1) * ((nI n) - 1)) < x1 → zW l Gr (zc n w) 168 M_Mo_view (d + 1) 209 [some (.ref 105), none, none, none, none, none, some (.int x6), some (.int x7), none] [.int ((x3 - x4) - (x3 - x4) / ((nI n) - 1) * ((nI n) - 1))] S Q) (k1 : ¬ ((x3 - x4) - (x3 - x4) / ((nI n) - 1) * ((nI n) - 1)) < x1 → zW l Gr (zc n w) 168 M_Mo_view (d + 1) 205 [some (.ref 105), none, none, none, none, none, some (.int x6), some (.int x7), none] [.int ((x3 - x4) - (x3 - x4) / ((nI n) - 1) * ((nI n) - 1))] S Q) : zW l Gr (zc n w) 168 M_Mo_view (d + 1) 184 [some (.ref 105), some (.int x1), none, some (.int x3), some (.int x4), none, some (.int x6), some (.int x7), none] [] S Q := by
  refine z_go (Gr := Gr) (zc := zc n w) (K := 168) oV_Mo_view 7 (pc' := 194) (L' := [some (.ref 105), some (.int x1), none, some (.int x3), some (.int x4), none, some (.int x6), some (.int x7), none]) (st' := [.int ((nI n) - 1), .int (x3 - x4)]) rfl ?_
  refine z_irem (Gr := Gr) (oV_Mo_view.1 (194, .irem) (ip_lk_mem rfl)) g0 ?_
  refine z_go (Gr := Gr) (zc := zc n w) (K := 168) oV_Mo_view 4 (pc' := 202) (L' := [some (.ref 105), some (.int x1), none, some (.int x3), some (.int x4), none, some (.int x6), some (.int x7), some (.int ((x3 - x4) - (x3 - x4) / ((nI n) - 1) * ((nI n) - 1)))]) (st' := [.int x1, .int ((x3 - x4) - (x3 - x4) / ((nI n) - 1) * ((nI n) - 1)), .int ((x3 - x4) - (x3 - x4) / ((nI n) - 1) * ((nI n) - 1))]) rfl ?_
  exact z_iclt (Gr := Gr) (tgt := 209) (oV_Mo_view.1 (202, .if_icmp .lt 7) (ip_lk_mem rfl)) (by decide) (fun q => (z_forget (k0 q) (And.intro rfl (And.intro rfl (And.intro rfl trivial))))) (fun q => (z_forget (k1 q) (And.intro rfl (And.intro rfl (And.intro rfl trivial)))))
set_option maxRecDepth 100000 in
theorem b_Mo_view_170 {l : Launch} {Gr : zG} {n w : Nat} {d : Nat} {S : zS} {Q : Option Value → zS → Prop} {x6 : Int32} {x7 : Int32} (g0 : vp_in x7 256) (k0 : Q (some (.int ((((S.2 119 ((x7 : Int32).toNatClampNeg)) >>> ((x6 : Int32).toInt64 &&& 63)) &&& 1)).toInt32)) S) : zW l Gr (zc n w) 168 M_Mo_view (d + 1) 170 [some (.ref 105), none, none, none, none, none, some (.int x6), some (.int x7), none] [] S Q := by
  refine z_go (Gr := Gr) (zc := zc n w) (K := 168) oV_Mo_view 3 (pc' := 176) (L' := [some (.ref 105), none, none, none, none, none, some (.int x6), some (.int x7), none]) (st' := [.int x7, .ref 151]) rfl ?_
  refine z_lald (Gr := Gr) (c := 119) (oV_Mo_view.1 (176, .laload) (ip_lk_mem rfl)) (by decide) rfl g0 ?_
  refine z_go (Gr := Gr) (zc := zc n w) (K := 168) oV_Mo_view 5 (pc' := 183) (L' := [some (.ref 105), none, none, none, none, none, some (.int x6), some (.int x7), none]) (st' := [.int ((((S.2 119 ((x7 : Int32).toNatClampNeg)) >>> ((x6 : Int32).toInt64 &&& 63)) &&& 1)).toInt32]) rfl ?_
  exact z_ret (v := (some (.int ((((S.2 119 ((x7 : Int32).toNatClampNeg)) >>> ((x6 : Int32).toInt64 &&& 63)) &&& 1)).toInt32))) (oV_Mo_view.1 (183, .ireturn) (ip_lk_mem rfl)) k0
set_option maxRecDepth 100000 in
theorem b_Mo_view_209 {l : Launch} {Gr : zG} {n w : Nat} {d : Nat} {S : zS} {Q : Option Value → zS → Prop} {x6 : Int32} {x7 : Int32} {s0 : Int32}  (k0 : zW l Gr (zc n w) 168 M_Mo_view (d + 1) 210 [some (.ref 105), none, none, none, none, none, some (.int x6), some (.int x7), none] [.int 0, .int s0] S Q) : zW l Gr (zc n w) 168 M_Mo_view (d + 1) 209 [some (.ref 105), none, none, none, none, none, some (.int x6), some (.int x7), none] [.int s0] S Q := by
  refine z_go (Gr := Gr) (zc := zc n w) (K := 168) oV_Mo_view 1 (pc' := 210) (L' := [some (.ref 105), none, none, none, none, none, some (.int x6), some (.int x7), none]) (st' := [.int 0, .int s0]) rfl ?_
  exact k0
set_option maxRecDepth 100000 in
theorem b_Mo_view_205 {l : Launch} {Gr : zG} {n w : Nat} {d : Nat} {S : zS} {Q : Option Value → zS → Prop} {x6 : Int32} {x7 : Int32} {s0 : Int32}  (k0 : zW l Gr (zc n w) 168 M_Mo_view (d + 1) 210 [some (.ref 105), none, none, none, none, none, some (.int x6), some (.int x7), none] [.int 1, .int s0] S Q) : zW l Gr (zc n w) 168 M_Mo_view (d + 1) 205 [some (.ref 105), none, none, none, none, none, some (.int x6), some (.int x7), none] [.int s0] S Q := by
  refine z_go (Gr := Gr) (zc := zc n w) (K := 168) oV_Mo_view 2 (pc' := 210) (L' := [some (.ref 105), none, none, none, none, none, some (.int x6), some (.int x7), none]) (st' := [.int 1, .int s0]) rfl ?_
  exact k0
set_option maxRecDepth 100000 in
theorem b_Mo_view_210 {l : Launch} {Gr : zG} {n w : Nat} {d : Nat} {S : zS} {Q : Option Value → zS → Prop} {x6 : Int32} {x7 : Int32} {s0 : Int32} {s1 : Int32} (g0 : vp_in x7 256) (g1 : vp_in ((S.1 117 ((x7 : Int32).toNatClampNeg)) + x6) 48192) (k0 : Q (some (.int (((S.1 151 ((((S.1 117 ((x7 : Int32).toNatClampNeg)) + x6) : Int32).toNatClampNeg)) >>> ((s1 + s0) &&& 31)) &&& 1))) S) : zW l Gr (zc n w) 168 M_Mo_view (d + 1) 210 [some (.ref 105), none, none, none, none, none, some (.int x6), some (.int x7), none] [.int s0, .int s1] S Q := by
  refine z_go (Gr := Gr) (zc := zc n w) (K := 168) oV_Mo_view 7 (pc' := 223) (L' := [some (.ref 105), none, none, none, none, none, some (.int x6), some (.int x7), some (.int (s1 + s0))]) (st' := [.int x7, .ref 149, .ref 183]) rfl ?_
  refine z_iald (Gr := Gr) (c := 117) (oV_Mo_view.1 (223, .iaload) (ip_lk_mem rfl)) (by decide) rfl g0 ?_
  refine z_go (Gr := Gr) (zc := zc n w) (K := 168) oV_Mo_view 2 (pc' := 227) (L' := [some (.ref 105), none, none, none, none, none, some (.int x6), some (.int x7), some (.int (s1 + s0))]) (st' := [.int ((S.1 117 ((x7 : Int32).toNatClampNeg)) + x6), .ref 183]) rfl ?_
  refine z_iald (Gr := Gr) (c := 151) (oV_Mo_view.1 (227, .iaload) (ip_lk_mem rfl)) (by decide) rfl g1 ?_
  refine z_go (Gr := Gr) (zc := zc n w) (K := 168) oV_Mo_view 4 (pc' := 233) (L' := [some (.ref 105), none, none, none, none, none, some (.int x6), some (.int x7), some (.int (s1 + s0))]) (st' := [.int (((S.1 151 ((((S.1 117 ((x7 : Int32).toNatClampNeg)) + x6) : Int32).toNatClampNeg)) >>> ((s1 + s0) &&& 31)) &&& 1)]) rfl ?_
  exact z_ret (v := (some (.int (((S.1 151 ((((S.1 117 ((x7 : Int32).toNatClampNeg)) + x6) : Int32).toNatClampNeg)) >>> ((s1 + s0) &&& 31)) &&& 1)))) (oV_Mo_view.1 (233, .ireturn) (ip_lk_mem rfl)) k0
theorem e_Mo_view {l : Launch} {Gr : zG} {n w : Nat} {d : Nat} {S : zS} {R : Int32 → zS → Prop} {x1 : Int32} {x2 : Int32} (k : zW l Gr (zc n w) 168 M_Mo_view (d + 1) 0 [some (.ref 105), some (.int x1), some (.int x2), none, none, none, none, none, none] [] S (fun v S' => ∃ x, v = some (.int x) ∧ R x S')) : zMi l Gr (zc n w) 168 M_Mo_view (d + 1) [.ref 105, .int x1, .int x2] S R := z_mi oM_Mo_view rfl (Nat.le_of_ble_eq_true rfl) k
set_option maxRecDepth 100000 in
theorem b_Mo_told_0 {l : Launch} {Gr : zG} {n w : Nat} {d : Nat} {S : zS} {Q : Option Value → zS → Prop} {x1 : Int32} {x2 : Int32}  (k0 : (S.1 73 124) = 0 → zW l Gr (zc n w) 168 M_Mo_told (d + 1) 31 [none, none, none, none, none, none] [] S Q) (k1 : ¬ (S.1 73 124) = 0 → zW l Gr (zc n w) 168 M_Mo_told (d + 1) 7 [some (.ref 105), some (.int x1), some (.int x2), none, none, none] [] S Q) : zW l Gr (zc n w) 168 M_Mo_told (d + 1) 0 [some (.ref 105), some (.int x1), some (.int x2), none, none, none] [] S Q := by
  refine z_go (Gr := Gr) (zc := zc n w) (K := 168) oV_Mo_told 2 (pc' := 4) (L' := [some (.ref 105), some (.int x1), some (.int x2), none, none, none]) (st' := [.int (S.1 73 124)]) rfl ?_
  exact z_ifeq (Gr := Gr) (tgt := 31) (oV_Mo_told.1 (4, .ifCond .eq 27) (ip_lk_mem rfl)) (by decide) (fun q => (z_forget (k0 q) trivial)) (fun q => (k1 q))
set_option maxRecDepth 100000 in
theorem b_Mo_told_31 {l : Launch} {Gr : zG} {n w : Nat} {d : Nat} {S : zS} {Q : Option Value → zS → Prop}   (k0 : Q (some (.long (-1))) S) : zW l Gr (zc n w) 168 M_Mo_told (d + 1) 31 [none, none, none, none, none, none] [] S Q := by
  refine z_go (Gr := Gr) (zc := zc n w) (K := 168) oV_Mo_told 1 (pc' := 34) (L' := [none, none, none, none, none, none]) (st' := [.long (-1)]) rfl ?_
  exact z_ret (v := (some (.long (-1)))) (oV_Mo_told.1 (34, .lreturn) (ip_lk_mem rfl)) k0
set_option maxRecDepth 100000 in
theorem b_Mo_told_7 {l : Launch} {Gr : zG} {n w : Nat} {d : Nat} {S : zS} {Q : Option Value → zS → Prop} {x1 : Int32} {x2 : Int32}  (k0 : x1 < 0 → zW l Gr (zc n w) 168 M_Mo_told (d + 1) 31 [none, none, none, none, none, none] [] S Q) (k1 : ¬ x1 < 0 → zW l Gr (zc n w) 168 M_Mo_told (d + 1) 11 [some (.ref 105), some (.int x1), some (.int x2), none, none, none] [] S Q) : zW l Gr (zc n w) 168 M_Mo_told (d + 1) 7 [some (.ref 105), some (.int x1), some (.int x2), none, none, none] [] S Q := by
  refine z_go (Gr := Gr) (zc := zc n w) (K := 168) oV_Mo_told 1 (pc' := 8) (L' := [some (.ref 105), some (.int x1), some (.int x2), none, none, none]) (st' := [.int x1]) rfl ?_
  exact z_iflt (Gr := Gr) (tgt := 31) (oV_Mo_told.1 (8, .ifCond .lt 23) (ip_lk_mem rfl)) (by decide) (fun q => (z_forget (k0 q) trivial)) (fun q => (k1 q))
set_option maxRecDepth 100000 in
theorem b_Mo_told_11 {l : Launch} {Gr : zG} {n w : Nat} {d : Nat} {S : zS} {Q : Option Value → zS → Prop} {x1 : Int32} {x2 : Int32}  (k0 : (nI n) ≤ x1 → zW l Gr (zc n w) 168 M_Mo_told (d + 1) 31 [none, none, none, none, none, none] [] S Q) (k1 : ¬ (nI n) ≤ x1 → zW l Gr (zc n w) 168 M_Mo_told (d + 1) 19 [some (.ref 105), some (.int x1), some (.int x2), none, none, none] [] S Q) : zW l Gr (zc n w) 168 M_Mo_told (d + 1) 11 [some (.ref 105), some (.int x1), some (.int x2), none, none, none] [] S Q := by
  refine z_go (Gr := Gr) (zc := zc n w) (K := 168) oV_Mo_told 3 (pc' := 16) (L' := [some (.ref 105), some (.int x1), some (.int x2), none, none, none]) (st' := [.int (nI n), .int x1]) rfl ?_
  exact z_icge (Gr := Gr) (tgt := 31) (oV_Mo_told.1 (16, .if_icmp .ge 15) (ip_lk_mem rfl)) (by decide) (fun q => (z_forget (k0 q) trivial)) (fun q => (k1 q))
set_option maxRecDepth 100000 in
theorem b_Mo_told_19 {l : Launch} {Gr : zG} {n w : Nat} {d : Nat} {S : zS} {Q : Option Value → zS → Prop} {x1 : Int32} {x2 : Int32}  (k0 : x2 < 0 → zW l Gr (zc n w) 168 M_Mo_told (d + 1) 31 [none, none, none, none, none, none] [] S Q) (k1 : ¬ x2 < 0 → zW l Gr (zc n w) 168 M_Mo_told (d + 1) 23 [some (.ref 105), some (.int x1), some (.int x2), none, none, none] [] S Q) : zW l Gr (zc n w) 168 M_Mo_told (d + 1) 19 [some (.ref 105), some (.int x1), some (.int x2), none, none, none] [] S Q := by
  refine z_go (Gr := Gr) (zc := zc n w) (K := 168) oV_Mo_told 1 (pc' := 20) (L' := [some (.ref 105), some (.int x1), some (.int x2), none, none, none]) (st' := [.int x2]) rfl ?_
  exact z_iflt (Gr := Gr) (tgt := 31) (oV_Mo_told.1 (20, .ifCond .lt 11) (ip_lk_mem rfl)) (by decide) (fun q => (z_forget (k0 q) trivial)) (fun q => (k1 q))
set_option maxRecDepth 100000 in
theorem b_Mo_told_23 {l : Launch} {Gr : zG} {n w : Nat} {d : Nat} {S : zS} {Q : Option Value → zS → Prop} {x1 : Int32} {x2 : Int32}  (k0 : x2 < (S.1 73 69) → zW l Gr (zc n w) 168 M_Mo_told (d + 1) 35 [some (.ref 105), some (.int x1), some (.int x2), none, none, none] [] S Q) (k1 : ¬ x2 < (S.1 73 69) → zW l Gr (zc n w) 168 M_Mo_told (d + 1) 31 [none, none, none, none, none, none] [] S Q) : zW l Gr (zc n w) 168 M_Mo_told (d + 1) 23 [some (.ref 105), some (.int x1), some (.int x2), none, none, none] [] S Q := by
  refine z_go (Gr := Gr) (zc := zc n w) (K := 168) oV_Mo_told 3 (pc' := 28) (L' := [some (.ref 105), some (.int x1), some (.int x2), none, none, none]) (st' := [.int (S.1 73 69), .int x2]) rfl ?_
  exact z_iclt (Gr := Gr) (tgt := 35) (oV_Mo_told.1 (28, .if_icmp .lt 7) (ip_lk_mem rfl)) (by decide) (fun q => (k0 q)) (fun q => (z_forget (k1 q) trivial))
set_option maxRecDepth 100000 in
theorem b_Mo_told_35 {l : Launch} {Gr : zG} {n w : Nat} {d : Nat} {S : zS} {Q : Option Value → zS → Prop} {x1 : Int32} {x2 : Int32} (g0 : vp_in x1 16) (k0 : ((S.1 73 68) + 2) ≤ (S.1 157 ((x1 : Int32).toNatClampNeg)) → zW l Gr (zc n w) 168 M_Mo_told (d + 1) 54 [some (.ref 105), none, some (.int x2), none, none, none] [] S Q) (k1 : ¬ ((S.1 73 68) + 2) ≤ (S.1 157 ((x1 : Int32).toNatClampNeg)) → zW l Gr (zc n w) 168 M_Mo_told (d + 1) 50 [none, none, none, none, none, none] [] S Q) : zW l Gr (zc n w) 168 M_Mo_told (d + 1) 35 [some (.ref 105), some (.int x1), some (.int x2), none, none, none] [] S Q := by
  refine z_go (Gr := Gr) (zc := zc n w) (K := 168) oV_Mo_told 3 (pc' := 40) (L' := [some (.ref 105), some (.int x1), some (.int x2), none, none, none]) (st' := [.int x1, .ref 189]) rfl ?_
  refine z_iald (Gr := Gr) (c := 157) (oV_Mo_told.1 (40, .iaload) (ip_lk_mem rfl)) (by decide) rfl g0 ?_
  refine z_go (Gr := Gr) (zc := zc n w) (K := 168) oV_Mo_told 4 (pc' := 47) (L' := [some (.ref 105), some (.int x1), some (.int x2), none, none, none]) (st' := [.int ((S.1 73 68) + 2), .int (S.1 157 ((x1 : Int32).toNatClampNeg))]) rfl ?_
  exact z_icge (Gr := Gr) (tgt := 54) (oV_Mo_told.1 (47, .if_icmp .ge 7) (ip_lk_mem rfl)) (by decide) (fun q => (z_forget (k0 q) (And.intro rfl (And.intro rfl trivial)))) (fun q => (z_forget (k1 q) trivial))
set_option maxRecDepth 100000 in
theorem b_Mo_told_54 {l : Launch} {Gr : zG} {n w : Nat} {d : Nat} {S : zS} {Q : Option Value → zS → Prop} {x2 : Int32}  (k0 : zW l Gr (zc n w) 168 M_Mo_told (d + 1) 59 [some (.ref 105), none, some (.int x2), some (.long 0), none, some (.int 0)] [] S Q) : zW l Gr (zc n w) 168 M_Mo_told (d + 1) 54 [some (.ref 105), none, some (.int x2), none, none, none] [] S Q := by
  refine z_go (Gr := Gr) (zc := zc n w) (K := 168) oV_Mo_told 4 (pc' := 59) (L' := [some (.ref 105), none, some (.int x2), some (.long 0), none, some (.int 0)]) (st' := []) rfl ?_
  exact k0
set_option maxRecDepth 100000 in
theorem b_Mo_told_50 {l : Launch} {Gr : zG} {n w : Nat} {d : Nat} {S : zS} {Q : Option Value → zS → Prop}   (k0 : Q (some (.long (-1))) S) : zW l Gr (zc n w) 168 M_Mo_told (d + 1) 50 [none, none, none, none, none, none] [] S Q := by
  refine z_go (Gr := Gr) (zc := zc n w) (K := 168) oV_Mo_told 1 (pc' := 53) (L' := [none, none, none, none, none, none]) (st' := [.long (-1)]) rfl ?_
  exact z_ret (v := (some (.long (-1)))) (oV_Mo_told.1 (53, .lreturn) (ip_lk_mem rfl)) k0
set_option maxRecDepth 100000 in
theorem b_Mo_told_59 {l : Launch} {Gr : zG} {n w : Nat} {d : Nat} {S : zS} {Q : Option Value → zS → Prop} {x2 : Int32} {x3 : Int64} {x5 : Int32} (g0 : vp_in x2 500) (k0 : (S.1 120 ((x2 : Int32).toNatClampNeg)) ≤ x5 → zW l Gr (zc n w) 168 M_Mo_told (d + 1) 102 [none, none, none, some (.long x3), none, none] [] S Q) (k1 : ¬ (S.1 120 ((x2 : Int32).toNatClampNeg)) ≤ x5 → zW l Gr (zc n w) 168 M_Mo_told (d + 1) 70 [some (.ref 105), none, some (.int x2), some (.long x3), none, some (.int x5)] [] S Q) : zW l Gr (zc n w) 168 M_Mo_told (d + 1) 59 [some (.ref 105), none, some (.int x2), some (.long x3), none, some (.int x5)] [] S Q := by
  refine z_go (Gr := Gr) (zc := zc n w) (K := 168) oV_Mo_told 4 (pc' := 66) (L' := [some (.ref 105), none, some (.int x2), some (.long x3), none, some (.int x5)]) (st' := [.int x2, .ref 152, .int x5]) rfl ?_
  refine z_iald (Gr := Gr) (c := 120) (oV_Mo_told.1 (66, .iaload) (ip_lk_mem rfl)) (by decide) rfl g0 ?_
  exact z_icge (Gr := Gr) (tgt := 102) (oV_Mo_told.1 (67, .if_icmp .ge 35) (ip_lk_mem rfl)) (by decide) (fun q => (z_forget (k0 q) (And.intro rfl trivial))) (fun q => (k1 q))
set_option maxRecDepth 100000 in
theorem b_Mo_told_102 {l : Launch} {Gr : zG} {n w : Nat} {d : Nat} {S : zS} {Q : Option Value → zS → Prop} {x3 : Int64}  (k0 : Q (some (.long x3)) S) : zW l Gr (zc n w) 168 M_Mo_told (d + 1) 102 [none, none, none, some (.long x3), none, none] [] S Q := by
  refine z_go (Gr := Gr) (zc := zc n w) (K := 168) oV_Mo_told 1 (pc' := 103) (L' := [none, none, none, some (.long x3), none, none]) (st' := [.long x3]) rfl ?_
  exact z_ret (v := (some (.long x3))) (oV_Mo_told.1 (103, .lreturn) (ip_lk_mem rfl)) k0
set_option maxRecDepth 100000 in
theorem b_Mo_told_70 {l : Launch} {Gr : zG} {n w : Nat} {d : Nat} {S : zS} {Q : Option Value → zS → Prop} {R : Int32 → zS → Prop} (hg : ip_gk (lg_tbl, vwCl, Gr)) {x2 : Int32} {x3 : Int64} {x5 : Int32} (g0 : vp_in ((32 * x2) + x5) 16000) (k0 : zMi l Gr (zc n w) 168 M_Mo_shareOf d [.ref 105, .int (S.1 121 ((((32 * x2) + x5) : Int32).toNatClampNeg))] S R) (k1 : ∀ v S', R v S' → zW l Gr (zc n w) 168 M_Mo_told (d + 1) 87 [some (.ref 105), none, some (.int x2), none, none, some (.int x5)] [.int v, .long x3] S' Q) : zW l Gr (zc n w) 168 M_Mo_told (d + 1) 70 [some (.ref 105), none, some (.int x2), some (.long x3), none, some (.int x5)] [] S Q := by
  refine z_go (Gr := Gr) (zc := zc n w) (K := 168) oV_Mo_told 9 (pc' := 83) (L' := [some (.ref 105), none, some (.int x2), some (.long x3), none, some (.int x5)]) (st' := [.int ((32 * x2) + x5), .ref 153, .ref 105, .long x3]) rfl ?_
  refine z_iald (Gr := Gr) (c := 121) (oV_Mo_told.1 (83, .iaload) (ip_lk_mem rfl)) (by decide) rfl g0 ?_
  exact z_callV (Gr := Gr) hg.2.2.1 fT oM_Mo_shareOf (oV_Mo_told.1 (84, .invokevirtual 815) (ip_lk_mem rfl)) ⟨tt_10 _ (List.mem_of_getElem? (i := 235) rfl) rfl, tt_10 _ (List.mem_of_getElem? (i := 237) rfl) rfl, fS_Mo_shareOf⟩ (c := 73) (ci := 12) (As := [.int (S.1 121 ((((32 * x2) + x5) : Int32).toNatClampNeg))]) rfl rfl rfl (by decide) rfl (Nat.le_of_ble_eq_true rfl) k0 (fun v S' q => by obtain ⟨x, rfl, q⟩ := q; exact (z_forget (k1 _ _ q) (And.intro rfl (And.intro rfl (And.intro rfl trivial)))))
set_option maxRecDepth 100000 in
theorem b_Mo_told_87 {l : Launch} {Gr : zG} {n w : Nat} {d : Nat} {S : zS} {Q : Option Value → zS → Prop} {R : Int32 → zS → Prop} (hg : ip_gk (lg_tbl, vwCl, Gr)) {x2 : Int32} {x5 : Int32} {s0 : Int32} {s1 : Int64}  (k0 : zMi l Gr (zc n w) 168 M_Mo_parity d [.int s0] S R) (k1 : ∀ v S', R v S' → zW l Gr (zc n w) 168 M_Mo_told (d + 1) 90 [some (.ref 105), none, some (.int x2), none, none, some (.int x5)] [.int v, .long s1] S' Q) : zW l Gr (zc n w) 168 M_Mo_told (d + 1) 87 [some (.ref 105), none, some (.int x2), none, none, some (.int x5)] [.int s0, .long s1] S Q := by
  exact z_callS (Gr := Gr) hg.2.2.1 fT oM_Mo_parity (oV_Mo_told.1 (87, .invokestatic 812) (ip_lk_mem rfl)) ⟨tt_10 _ (List.mem_of_getElem? (i := 231) rfl) rfl, tt_10 _ (List.mem_of_getElem? (i := 232) rfl) rfl⟩ (As := [.int s0]) rfl (Nat.le_of_ble_eq_true rfl) k0 (fun v S' q => by obtain ⟨x, rfl, q⟩ := q; exact (k1 _ _ q))
set_option maxRecDepth 100000 in
theorem b_Mo_told_90 {l : Launch} {Gr : zG} {n w : Nat} {d : Nat} {S : zS} {Q : Option Value → zS → Prop} {x2 : Int32} {x5 : Int32} {s0 : Int32} {s1 : Int64}  (k0 : zW l Gr (zc n w) 168 M_Mo_told (d + 1) 59 [some (.ref 105), none, some (.int x2), some (.long (s1 + (((s0 : Int32)).toInt64 <<< ((x5 : Int32).toInt64 &&& 63)))), none, some (.int (x5 + Int32.ofInt 1))] [] S Q) : zW l Gr (zc n w) 168 M_Mo_told (d + 1) 90 [some (.ref 105), none, some (.int x2), none, none, some (.int x5)] [.int s0, .long s1] S Q := by
  refine z_go (Gr := Gr) (zc := zc n w) (K := 168) oV_Mo_told 7 (pc' := 59) (L' := [some (.ref 105), none, some (.int x2), some (.long (s1 + (((s0 : Int32)).toInt64 <<< ((x5 : Int32).toInt64 &&& 63)))), none, some (.int (x5 + Int32.ofInt 1))]) (st' := []) rfl ?_
  exact k0
theorem e_Mo_told {l : Launch} {Gr : zG} {n w : Nat} {d : Nat} {S : zS} {R : Int64 → zS → Prop} {x1 : Int32} {x2 : Int32} (k : zW l Gr (zc n w) 168 M_Mo_told (d + 1) 0 [some (.ref 105), some (.int x1), some (.int x2), none, none, none] [] S (fun v S' => ∃ x, v = some (.long x) ∧ R x S')) : zMl l Gr (zc n w) 168 M_Mo_told (d + 1) [.ref 105, .int x1, .int x2] S R := z_ml oM_Mo_told rfl (Nat.le_of_ble_eq_true rfl) k
set_option maxRecDepth 100000 in
theorem b_Mo_deal_0 {l : Launch} {Gr : zG} {n w : Nat} {d : Nat} {S : zS} {Q : Option Value → zS → Prop}   (k0 : ¬ (S.1 73 83) = 0 → zW l Gr (zc n w) 168 M_Mo_deal (d + 1) 9 [some (.ref 105), none] [] S Q) (k1 : (S.1 73 83) = 0 → zW l Gr (zc n w) 168 M_Mo_deal (d + 1) 7 [none, none] [] S Q) : zW l Gr (zc n w) 168 M_Mo_deal (d + 1) 0 [some (.ref 105), none] [] S Q := by
  refine z_go (Gr := Gr) (zc := zc n w) (K := 168) oV_Mo_deal 2 (pc' := 4) (L' := [some (.ref 105), none]) (st' := [.int (S.1 73 83)]) rfl ?_
  exact z_ifne (Gr := Gr) (tgt := 9) (oV_Mo_deal.1 (4, .ifCond .ne 5) (ip_lk_mem rfl)) (by decide) (fun q => (k0 q)) (fun q => (z_forget (k1 q) trivial))
set_option maxRecDepth 100000 in
theorem b_Mo_deal_9 {l : Launch} {Gr : zG} {n w : Nat} {d : Nat} {S : zS} {Q : Option Value → zS → Prop} {R : zS → Prop} (hg : ip_gk (lg_tbl, vwCl, Gr))   (k0 : zMv l Gr (zc n w) 168 M_Mo_forget d [.ref 105] S R) (k1 : ∀ S', R S' → zW l Gr (zc n w) 168 M_Mo_deal (d + 1) 13 [some (.ref 105), none] [] S' Q) : zW l Gr (zc n w) 168 M_Mo_deal (d + 1) 9 [some (.ref 105), none] [] S Q := by
  refine z_go (Gr := Gr) (zc := zc n w) (K := 168) oV_Mo_deal 1 (pc' := 10) (L' := [some (.ref 105), none]) (st' := [.ref 105]) rfl ?_
  exact z_callV (Gr := Gr) hg.2.2.1 fT oM_Mo_forget (oV_Mo_deal.1 (10, .invokevirtual 836) (ip_lk_mem rfl)) ⟨tt_9 _ (List.mem_of_getElem? (i := 29) rfl) rfl, tt_9 _ (List.mem_of_getElem? (i := 31) rfl) rfl, fS_Mo_forget⟩ (c := 73) (ci := 12) (As := []) rfl rfl rfl (by decide) rfl (Nat.le_of_ble_eq_true rfl) k0 (fun v S' q => by obtain ⟨rfl, q⟩ := q; exact (k1 _ q))
set_option maxRecDepth 100000 in
theorem b_Mo_deal_7 {l : Launch} {Gr : zG} {n w : Nat} {d : Nat} {S : zS} {Q : Option Value → zS → Prop}   (k0 : Q (some (.int 0)) S) : zW l Gr (zc n w) 168 M_Mo_deal (d + 1) 7 [none, none] [] S Q := by
  refine z_go (Gr := Gr) (zc := zc n w) (K := 168) oV_Mo_deal 1 (pc' := 8) (L' := [none, none]) (st' := [.int 0]) rfl ?_
  exact z_ret (v := (some (.int 0))) (oV_Mo_deal.1 (8, .ireturn) (ip_lk_mem rfl)) k0
set_option maxRecDepth 100000 in
theorem b_Mo_deal_13 {l : Launch} {Gr : zG} {n w : Nat} {d : Nat} {S : zS} {Q : Option Value → zS → Prop}   (k0 : zW l Gr (zc n w) 168 M_Mo_deal (d + 1) 20 [some (.ref 105), some (.int 0)] [] (zi S 73 124 1) Q) : zW l Gr (zc n w) 168 M_Mo_deal (d + 1) 13 [some (.ref 105), none] [] S Q := by
  refine z_go (Gr := Gr) (zc := zc n w) (K := 168) oV_Mo_deal 2 (pc' := 15) (L' := [some (.ref 105), none]) (st' := [.int 1, .ref 105]) rfl ?_
  refine z_putI (Gr := Gr) (c := 73) (oV_Mo_deal.1 (15, .putfield 762) (ip_lk_mem rfl)) (oV_Mo_deal.2.1 (762, 12, 124, .boolean, false) (ip_lk_mem rfl)).1 (by decide) (zo_73 _ _ _ _) (zs_73_124 _ _ _ _ _) (zn_73_124 _ _ _ _) (by decide) ?_
  refine z_go (Gr := Gr) (zc := zc n w) (K := 168) oV_Mo_deal 2 (pc' := 20) (L' := [some (.ref 105), some (.int 0)]) (st' := []) rfl ?_
  exact k0
set_option maxRecDepth 100000 in
theorem b_Mo_deal_20 {l : Launch} {Gr : zG} {n w : Nat} {d : Nat} {S : zS} {Q : Option Value → zS → Prop} {x1 : Int32}  (k0 : (S.1 73 75) ≤ x1 → zW l Gr (zc n w) 168 M_Mo_deal (d + 1) 46 [some (.ref 105), none] [] S Q) (k1 : ¬ (S.1 73 75) ≤ x1 → zW l Gr (zc n w) 168 M_Mo_deal (d + 1) 28 [some (.ref 105), some (.int x1)] [] S Q) : zW l Gr (zc n w) 168 M_Mo_deal (d + 1) 20 [some (.ref 105), some (.int x1)] [] S Q := by
  refine z_go (Gr := Gr) (zc := zc n w) (K := 168) oV_Mo_deal 3 (pc' := 25) (L' := [some (.ref 105), some (.int x1)]) (st' := [.int (S.1 73 75), .int x1]) rfl ?_
  exact z_icge (Gr := Gr) (tgt := 46) (oV_Mo_deal.1 (25, .if_icmp .ge 21) (ip_lk_mem rfl)) (by decide) (fun q => (z_forget (k0 q) (And.intro rfl trivial))) (fun q => (k1 q))
set_option maxRecDepth 100000 in
theorem b_Mo_deal_46 {l : Launch} {Gr : zG} {n w : Nat} {d : Nat} {S : zS} {Q : Option Value → zS → Prop} {R : zS → Prop} (hg : ip_gk (lg_tbl, vwCl, Gr))   (k0 : zMv l Gr (zc n w) 168 M_Mo_shareAll d [.ref 105] S R) (k1 : ∀ S', R S' → zW l Gr (zc n w) 168 M_Mo_deal (d + 1) 50 [some (.ref 105), none] [] S' Q) : zW l Gr (zc n w) 168 M_Mo_deal (d + 1) 46 [some (.ref 105), none] [] S Q := by
  refine z_go (Gr := Gr) (zc := zc n w) (K := 168) oV_Mo_deal 1 (pc' := 47) (L' := [some (.ref 105), none]) (st' := [.ref 105]) rfl ?_
  exact z_callV (Gr := Gr) hg.2.2.1 fT oM_Mo_shareAll (oV_Mo_deal.1 (47, .invokevirtual 857) (ip_lk_mem rfl)) ⟨tt_10 _ (List.mem_of_getElem? (i := 222) rfl) rfl, tt_10 _ (List.mem_of_getElem? (i := 224) rfl) rfl, fS_Mo_shareAll⟩ (c := 73) (ci := 12) (As := []) rfl rfl rfl (by decide) rfl (Nat.le_of_ble_eq_true rfl) k0 (fun v S' q => by obtain ⟨rfl, q⟩ := q; exact (k1 _ q))
set_option maxRecDepth 100000 in
theorem b_Mo_deal_28 {l : Launch} {Gr : zG} {n w : Nat} {d : Nat} {S : zS} {Q : Option Value → zS → Prop} {x1 : Int32} (g0 : vp_in x1 256) (k0 : zW l Gr (zc n w) 168 M_Mo_deal (d + 1) 20 [some (.ref 105), some (.int (x1 + Int32.ofInt 1))] [] (zj S 119 ((x1 : Int32).toNatClampNeg) (S.2 118 ((x1 : Int32).toNatClampNeg))) Q) : zW l Gr (zc n w) 168 M_Mo_deal (d + 1) 28 [some (.ref 105), some (.int x1)] [] S Q := by
  refine z_go (Gr := Gr) (zc := zc n w) (K := 168) oV_Mo_deal 6 (pc' := 38) (L' := [some (.ref 105), some (.int x1)]) (st' := [.int x1, .ref 150, .int x1, .ref 151]) rfl ?_
  refine z_lald (Gr := Gr) (c := 118) (oV_Mo_deal.1 (38, .laload) (ip_lk_mem rfl)) (by decide) rfl g0 ?_
  refine z_last (Gr := Gr) (c := 119) (oV_Mo_deal.1 (39, .lastore) (ip_lk_mem rfl)) (by decide) (fun _ => rfl) g0 ?_
  refine z_go (Gr := Gr) (zc := zc n w) (K := 168) oV_Mo_deal 2 (pc' := 20) (L' := [some (.ref 105), some (.int (x1 + Int32.ofInt 1))]) (st' := []) rfl ?_
  exact k0
set_option maxRecDepth 100000 in
theorem b_Mo_deal_50 {l : Launch} {Gr : zG} {n w : Nat} {d : Nat} {S : zS} {Q : Option Value → zS → Prop}   (k0 : zW l Gr (zc n w) 168 M_Mo_deal (d + 1) 52 [some (.ref 105), some (.int 0)] [] S Q) : zW l Gr (zc n w) 168 M_Mo_deal (d + 1) 50 [some (.ref 105), none] [] S Q := by
  refine z_go (Gr := Gr) (zc := zc n w) (K := 168) oV_Mo_deal 2 (pc' := 52) (L' := [some (.ref 105), some (.int 0)]) (st' := []) rfl ?_
  exact k0
set_option maxRecDepth 100000 in
theorem b_Mo_deal_52 {l : Launch} {Gr : zG} {n w : Nat} {d : Nat} {S : zS} {Q : Option Value → zS → Prop} {x1 : Int32}  (k0 : (nI n) ≤ x1 → zW l Gr (zc n w) 168 M_Mo_deal (d + 1) 101 [some (.ref 105), none] [] S Q) (k1 : ¬ (nI n) ≤ x1 → zW l Gr (zc n w) 168 M_Mo_deal (d + 1) 60 [some (.ref 105), some (.int x1)] [] S Q) : zW l Gr (zc n w) 168 M_Mo_deal (d + 1) 52 [some (.ref 105), some (.int x1)] [] S Q := by
  refine z_go (Gr := Gr) (zc := zc n w) (K := 168) oV_Mo_deal 3 (pc' := 57) (L' := [some (.ref 105), some (.int x1)]) (st' := [.int (nI n), .int x1]) rfl ?_
  exact z_icge (Gr := Gr) (tgt := 101) (oV_Mo_deal.1 (57, .if_icmp .ge 44) (ip_lk_mem rfl)) (by decide) (fun q => (z_forget (k0 q) (And.intro rfl trivial))) (fun q => (k1 q))
set_option maxRecDepth 100000 in
theorem b_Mo_deal_101 {l : Launch} {Gr : zG} {n w : Nat} {d : Nat} {S : zS} {Q : Option Value → zS → Prop}   (k0 : zW l Gr (zc n w) 168 M_Mo_deal (d + 1) 103 [some (.ref 105), some (.int 0)] [] S Q) : zW l Gr (zc n w) 168 M_Mo_deal (d + 1) 101 [some (.ref 105), none] [] S Q := by
  refine z_go (Gr := Gr) (zc := zc n w) (K := 168) oV_Mo_deal 2 (pc' := 103) (L' := [some (.ref 105), some (.int 0)]) (st' := []) rfl ?_
  exact k0
set_option maxRecDepth 100000 in
theorem b_Mo_deal_60 {l : Launch} {Gr : zG} {n w : Nat} {d : Nat} {S : zS} {Q : Option Value → zS → Prop} {x1 : Int32} (g0 : vp_in x1 16) (k0 : zW l Gr (zc n w) 168 M_Mo_deal (d + 1) 52 [some (.ref 105), some (.int (x1 + Int32.ofInt 1))] [] (zi (zi (zi (zi (zi S 157 ((x1 : Int32).toNatClampNeg) 0) 158 ((x1 : Int32).toNatClampNeg) 0) 159 ((x1 : Int32).toNatClampNeg) 0) 160 ((x1 : Int32).toNatClampNeg) 0) 161 ((x1 : Int32).toNatClampNeg) 0) Q) : zW l Gr (zc n w) 168 M_Mo_deal (d + 1) 60 [some (.ref 105), some (.int x1)] [] S Q := by
  refine z_go (Gr := Gr) (zc := zc n w) (K := 168) oV_Mo_deal 4 (pc' := 66) (L' := [some (.ref 105), some (.int x1)]) (st' := [.int 0, .int x1, .ref 189]) rfl ?_
  refine z_iast (Gr := Gr) (c := 157) (oV_Mo_deal.1 (66, .iastore) (ip_lk_mem rfl)) (by decide) (fun _ => rfl) g0 ?_
  refine z_go (Gr := Gr) (zc := zc n w) (K := 168) oV_Mo_deal 4 (pc' := 73) (L' := [some (.ref 105), some (.int x1)]) (st' := [.int 0, .int x1, .ref 190]) rfl ?_
  refine z_iast (Gr := Gr) (c := 158) (oV_Mo_deal.1 (73, .iastore) (ip_lk_mem rfl)) (by decide) (fun _ => rfl) g0 ?_
  refine z_go (Gr := Gr) (zc := zc n w) (K := 168) oV_Mo_deal 4 (pc' := 80) (L' := [some (.ref 105), some (.int x1)]) (st' := [.int 0, .int x1, .ref 191]) rfl ?_
  refine z_iast (Gr := Gr) (c := 159) (oV_Mo_deal.1 (80, .iastore) (ip_lk_mem rfl)) (by decide) (fun _ => rfl) g0 ?_
  refine z_go (Gr := Gr) (zc := zc n w) (K := 168) oV_Mo_deal 4 (pc' := 87) (L' := [some (.ref 105), some (.int x1)]) (st' := [.int 0, .int x1, .ref 192]) rfl ?_
  refine z_iast (Gr := Gr) (c := 160) (oV_Mo_deal.1 (87, .iastore) (ip_lk_mem rfl)) (by decide) (fun _ => rfl) g0 ?_
  refine z_go (Gr := Gr) (zc := zc n w) (K := 168) oV_Mo_deal 4 (pc' := 94) (L' := [some (.ref 105), some (.int x1)]) (st' := [.int 0, .int x1, .ref 193]) rfl ?_
  refine z_iast (Gr := Gr) (c := 161) (oV_Mo_deal.1 (94, .iastore) (ip_lk_mem rfl)) (by decide) (fun _ => rfl) g0 ?_
  refine z_go (Gr := Gr) (zc := zc n w) (K := 168) oV_Mo_deal 2 (pc' := 52) (L' := [some (.ref 105), some (.int (x1 + Int32.ofInt 1))]) (st' := []) rfl ?_
  exact k0
set_option maxRecDepth 100000 in
theorem b_Mo_deal_103 {l : Launch} {Gr : zG} {n w : Nat} {d : Nat} {S : zS} {Q : Option Value → zS → Prop} {x1 : Int32}  (k0 : (nI n) ≤ x1 → zW l Gr (zc n w) 168 M_Mo_deal (d + 1) 122 [none, none] [] S Q) (k1 : ¬ (nI n) ≤ x1 → zW l Gr (zc n w) 168 M_Mo_deal (d + 1) 111 [some (.ref 105), some (.int x1)] [] S Q) : zW l Gr (zc n w) 168 M_Mo_deal (d + 1) 103 [some (.ref 105), some (.int x1)] [] S Q := by
  refine z_go (Gr := Gr) (zc := zc n w) (K := 168) oV_Mo_deal 3 (pc' := 108) (L' := [some (.ref 105), some (.int x1)]) (st' := [.int (nI n), .int x1]) rfl ?_
  exact z_icge (Gr := Gr) (tgt := 122) (oV_Mo_deal.1 (108, .if_icmp .ge 14) (ip_lk_mem rfl)) (by decide) (fun q => (z_forget (k0 q) trivial)) (fun q => (k1 q))
set_option maxRecDepth 100000 in
theorem b_Mo_deal_122 {l : Launch} {Gr : zG} {n w : Nat} {d : Nat} {S : zS} {Q : Option Value → zS → Prop}   (k0 : Q (some (.int 1)) S) : zW l Gr (zc n w) 168 M_Mo_deal (d + 1) 122 [none, none] [] S Q := by
  refine z_go (Gr := Gr) (zc := zc n w) (K := 168) oV_Mo_deal 1 (pc' := 123) (L' := [none, none]) (st' := [.int 1]) rfl ?_
  exact z_ret (v := (some (.int 1))) (oV_Mo_deal.1 (123, .ireturn) (ip_lk_mem rfl)) k0
set_option maxRecDepth 100000 in
theorem b_Mo_deal_111 {l : Launch} {Gr : zG} {n w : Nat} {d : Nat} {S : zS} {Q : Option Value → zS → Prop} {R : zS → Prop} (hg : ip_gk (lg_tbl, vwCl, Gr)) {x1 : Int32}  (k0 : zMv l Gr (zc n w) 168 M_Mo_sendRound d [.ref 105, .int x1] S R) (k1 : ∀ S', R S' → zW l Gr (zc n w) 168 M_Mo_deal (d + 1) 116 [some (.ref 105), some (.int x1)] [] S' Q) : zW l Gr (zc n w) 168 M_Mo_deal (d + 1) 111 [some (.ref 105), some (.int x1)] [] S Q := by
  refine z_go (Gr := Gr) (zc := zc n w) (K := 168) oV_Mo_deal 2 (pc' := 113) (L' := [some (.ref 105), some (.int x1)]) (st' := [.int x1, .ref 105]) rfl ?_
  exact z_callV (Gr := Gr) hg.2.2.1 fT oM_Mo_sendRound (oV_Mo_deal.1 (113, .invokevirtual 833) (ip_lk_mem rfl)) ⟨tt_10 _ (List.mem_of_getElem? (i := 239) rfl) rfl, tt_11 _ (List.mem_of_getElem? (i := 1) rfl) rfl, fS_Mo_sendRound⟩ (c := 73) (ci := 12) (As := [.int x1]) rfl rfl rfl (by decide) rfl (Nat.le_of_ble_eq_true rfl) k0 (fun v S' q => by obtain ⟨rfl, q⟩ := q; exact (k1 _ q))
set_option maxRecDepth 100000 in
theorem b_Mo_deal_116 {l : Launch} {Gr : zG} {n w : Nat} {d : Nat} {S : zS} {Q : Option Value → zS → Prop} {x1 : Int32}  (k0 : zW l Gr (zc n w) 168 M_Mo_deal (d + 1) 103 [some (.ref 105), some (.int (x1 + Int32.ofInt 1))] [] S Q) : zW l Gr (zc n w) 168 M_Mo_deal (d + 1) 116 [some (.ref 105), some (.int x1)] [] S Q := by
  refine z_go (Gr := Gr) (zc := zc n w) (K := 168) oV_Mo_deal 2 (pc' := 103) (L' := [some (.ref 105), some (.int (x1 + Int32.ofInt 1))]) (st' := []) rfl ?_
  exact k0
theorem e_Mo_deal {l : Launch} {Gr : zG} {n w : Nat} {d : Nat} {S : zS} {R : Int32 → zS → Prop}  (k : zW l Gr (zc n w) 168 M_Mo_deal (d + 1) 0 [some (.ref 105), none] [] S (fun v S' => ∃ x, v = some (.int x) ∧ (x = 0 ∨ x = 1) ∧ R x S')) : zMi l Gr (zc n w) 168 M_Mo_deal (d + 1) [.ref 105] S R := z_mb oM_Mo_deal rfl (Nat.le_of_ble_eq_true rfl) k
set_option maxRecDepth 100000 in
theorem b_Mo_truth_0 {l : Launch} {Gr : zG} {n w : Nat} {d : Nat} {S : zS} {Q : Option Value → zS → Prop} {x1 : Int32}  (k0 : (S.1 73 83) = 0 → zW l Gr (zc n w) 168 M_Mo_truth (d + 1) 19 [none, none] [] S Q) (k1 : ¬ (S.1 73 83) = 0 → zW l Gr (zc n w) 168 M_Mo_truth (d + 1) 7 [some (.ref 105), some (.int x1)] [] S Q) : zW l Gr (zc n w) 168 M_Mo_truth (d + 1) 0 [some (.ref 105), some (.int x1)] [] S Q := by
  refine z_go (Gr := Gr) (zc := zc n w) (K := 168) oV_Mo_truth 2 (pc' := 4) (L' := [some (.ref 105), some (.int x1)]) (st' := [.int (S.1 73 83)]) rfl ?_
  exact z_ifeq (Gr := Gr) (tgt := 19) (oV_Mo_truth.1 (4, .ifCond .eq 15) (ip_lk_mem rfl)) (by decide) (fun q => (z_forget (k0 q) trivial)) (fun q => (k1 q))
set_option maxRecDepth 100000 in
theorem b_Mo_truth_19 {l : Launch} {Gr : zG} {n w : Nat} {d : Nat} {S : zS} {Q : Option Value → zS → Prop}   (k0 : Q (some (.long (-1))) S) : zW l Gr (zc n w) 168 M_Mo_truth (d + 1) 19 [none, none] [] S Q := by
  refine z_go (Gr := Gr) (zc := zc n w) (K := 168) oV_Mo_truth 1 (pc' := 22) (L' := [none, none]) (st' := [.long (-1)]) rfl ?_
  exact z_ret (v := (some (.long (-1)))) (oV_Mo_truth.1 (22, .lreturn) (ip_lk_mem rfl)) k0
set_option maxRecDepth 100000 in
theorem b_Mo_truth_7 {l : Launch} {Gr : zG} {n w : Nat} {d : Nat} {S : zS} {Q : Option Value → zS → Prop} {x1 : Int32}  (k0 : x1 < 0 → zW l Gr (zc n w) 168 M_Mo_truth (d + 1) 19 [none, none] [] S Q) (k1 : ¬ x1 < 0 → zW l Gr (zc n w) 168 M_Mo_truth (d + 1) 11 [some (.ref 105), some (.int x1)] [] S Q) : zW l Gr (zc n w) 168 M_Mo_truth (d + 1) 7 [some (.ref 105), some (.int x1)] [] S Q := by
  refine z_go (Gr := Gr) (zc := zc n w) (K := 168) oV_Mo_truth 1 (pc' := 8) (L' := [some (.ref 105), some (.int x1)]) (st' := [.int x1]) rfl ?_
  exact z_iflt (Gr := Gr) (tgt := 19) (oV_Mo_truth.1 (8, .ifCond .lt 11) (ip_lk_mem rfl)) (by decide) (fun q => (z_forget (k0 q) trivial)) (fun q => (k1 q))
set_option maxRecDepth 100000 in
theorem b_Mo_truth_11 {l : Launch} {Gr : zG} {n w : Nat} {d : Nat} {S : zS} {Q : Option Value → zS → Prop} {x1 : Int32}  (k0 : x1 < (S.1 73 69) → zW l Gr (zc n w) 168 M_Mo_truth (d + 1) 23 [some (.ref 105), some (.int x1)] [] S Q) (k1 : ¬ x1 < (S.1 73 69) → zW l Gr (zc n w) 168 M_Mo_truth (d + 1) 19 [none, none] [] S Q) : zW l Gr (zc n w) 168 M_Mo_truth (d + 1) 11 [some (.ref 105), some (.int x1)] [] S Q := by
  refine z_go (Gr := Gr) (zc := zc n w) (K := 168) oV_Mo_truth 3 (pc' := 16) (L' := [some (.ref 105), some (.int x1)]) (st' := [.int (S.1 73 69), .int x1]) rfl ?_
  exact z_iclt (Gr := Gr) (tgt := 23) (oV_Mo_truth.1 (16, .if_icmp .lt 7) (ip_lk_mem rfl)) (by decide) (fun q => (k0 q)) (fun q => (z_forget (k1 q) trivial))
set_option maxRecDepth 100000 in
theorem b_Mo_truth_23 {l : Launch} {Gr : zG} {n w : Nat} {d : Nat} {S : zS} {Q : Option Value → zS → Prop} {x1 : Int32}  (k0 : ¬ (S.1 73 119) = 0 → zW l Gr (zc n w) 168 M_Mo_truth (d + 1) 34 [some (.ref 105), some (.int x1)] [] S Q) (k1 : (S.1 73 119) = 0 → zW l Gr (zc n w) 168 M_Mo_truth (d + 1) 30 [some (.ref 105), some (.int x1)] [] S Q) : zW l Gr (zc n w) 168 M_Mo_truth (d + 1) 23 [some (.ref 105), some (.int x1)] [] S Q := by
  refine z_go (Gr := Gr) (zc := zc n w) (K := 168) oV_Mo_truth 2 (pc' := 27) (L' := [some (.ref 105), some (.int x1)]) (st' := [.int (S.1 73 119)]) rfl ?_
  exact z_ifne (Gr := Gr) (tgt := 34) (oV_Mo_truth.1 (27, .ifCond .ne 7) (ip_lk_mem rfl)) (by decide) (fun q => (k0 q)) (fun q => (k1 q))
set_option maxRecDepth 100000 in
theorem b_Mo_truth_34 {l : Launch} {Gr : zG} {n w : Nat} {d : Nat} {S : zS} {Q : Option Value → zS → Prop} {x1 : Int32} (g0 : vp_in x1 500) (k0 : Q (some (.long (S.2 149 ((x1 : Int32).toNatClampNeg)))) S) : zW l Gr (zc n w) 168 M_Mo_truth (d + 1) 34 [some (.ref 105), some (.int x1)] [] S Q := by
  refine z_go (Gr := Gr) (zc := zc n w) (K := 168) oV_Mo_truth 3 (pc' := 39) (L' := [some (.ref 105), some (.int x1)]) (st' := [.int x1, .ref 181]) rfl ?_
  refine z_lald (Gr := Gr) (c := 149) (oV_Mo_truth.1 (39, .laload) (ip_lk_mem rfl)) (by decide) rfl g0 ?_
  exact z_ret (v := (some (.long (S.2 149 ((x1 : Int32).toNatClampNeg))))) (oV_Mo_truth.1 (40, .lreturn) (ip_lk_mem rfl)) k0
set_option maxRecDepth 100000 in
theorem b_Mo_truth_30 {l : Launch} {Gr : zG} {n w : Nat} {d : Nat} {S : zS} {Q : Option Value → zS → Prop} {R : zS → Prop} (hg : ip_gk (lg_tbl, vwCl, Gr)) {x1 : Int32}  (k0 : zMv l Gr (zc n w) 168 M_Mo_mean d [.ref 105] S R) (k1 : ∀ S', R S' → zW l Gr (zc n w) 168 M_Mo_truth (d + 1) 34 [some (.ref 105), some (.int x1)] [] S' Q) : zW l Gr (zc n w) 168 M_Mo_truth (d + 1) 30 [some (.ref 105), some (.int x1)] [] S Q := by
  refine z_go (Gr := Gr) (zc := zc n w) (K := 168) oV_Mo_truth 1 (pc' := 31) (L' := [some (.ref 105), some (.int x1)]) (st' := [.ref 105]) rfl ?_
  exact z_callV (Gr := Gr) hg.2.2.1 fT oM_Mo_mean (oV_Mo_truth.1 (31, .invokevirtual 869) (ip_lk_mem rfl)) ⟨tt_11 _ (List.mem_of_getElem? (i := 55) rfl) rfl, tt_11 _ (List.mem_of_getElem? (i := 57) rfl) rfl, fS_Mo_mean⟩ (c := 73) (ci := 12) (As := []) rfl rfl rfl (by decide) rfl (Nat.le_of_ble_eq_true rfl) k0 (fun v S' q => by obtain ⟨rfl, q⟩ := q; exact (k1 _ q))
theorem e_Mo_truth {l : Launch} {Gr : zG} {n w : Nat} {d : Nat} {S : zS} {R : Int64 → zS → Prop} {x1 : Int32} (k : zW l Gr (zc n w) 168 M_Mo_truth (d + 1) 0 [some (.ref 105), some (.int x1)] [] S (fun v S' => ∃ x, v = some (.long x) ∧ R x S')) : zMl l Gr (zc n w) 168 M_Mo_truth (d + 1) [.ref 105, .int x1] S R := z_ml oM_Mo_truth rfl (Nat.le_of_ble_eq_true rfl) k
set_option maxRecDepth 100000 in
theorem b_Mo_rush_0 {l : Launch} {Gr : zG} {n w : Nat} {d : Nat} {S : zS} {Q : Option Value → zS → Prop} {x1 : Int32} {x2 : Int32}  (k0 : x1 < 0 → zW l Gr (zc n w) 168 M_Mo_rush (d + 1) 15 [none, none, none, none, none] [] S Q) (k1 : ¬ x1 < 0 → zW l Gr (zc n w) 168 M_Mo_rush (d + 1) 4 [some (.ref 105), some (.int x1), some (.int x2), none, none] [] S Q) : zW l Gr (zc n w) 168 M_Mo_rush (d + 1) 0 [some (.ref 105), some (.int x1), some (.int x2), none, none] [] S Q := by
  refine z_go (Gr := Gr) (zc := zc n w) (K := 168) oV_Mo_rush 1 (pc' := 1) (L' := [some (.ref 105), some (.int x1), some (.int x2), none, none]) (st' := [.int x1]) rfl ?_
  exact z_iflt (Gr := Gr) (tgt := 15) (oV_Mo_rush.1 (1, .ifCond .lt 14) (ip_lk_mem rfl)) (by decide) (fun q => (z_forget (k0 q) trivial)) (fun q => (k1 q))
set_option maxRecDepth 100000 in
theorem b_Mo_rush_15 {l : Launch} {Gr : zG} {n w : Nat} {d : Nat} {S : zS} {Q : Option Value → zS → Prop}   (k0 : Q (some (.int (-1))) S) : zW l Gr (zc n w) 168 M_Mo_rush (d + 1) 15 [none, none, none, none, none] [] S Q := by
  refine z_go (Gr := Gr) (zc := zc n w) (K := 168) oV_Mo_rush 1 (pc' := 16) (L' := [none, none, none, none, none]) (st' := [.int (-1)]) rfl ?_
  exact z_ret (v := (some (.int (-1)))) (oV_Mo_rush.1 (16, .ireturn) (ip_lk_mem rfl)) k0
set_option maxRecDepth 100000 in
theorem b_Mo_rush_4 {l : Launch} {Gr : zG} {n w : Nat} {d : Nat} {S : zS} {Q : Option Value → zS → Prop} {x1 : Int32} {x2 : Int32}  (k0 : x2 < 0 → zW l Gr (zc n w) 168 M_Mo_rush (d + 1) 15 [none, none, none, none, none] [] S Q) (k1 : ¬ x2 < 0 → zW l Gr (zc n w) 168 M_Mo_rush (d + 1) 8 [some (.ref 105), some (.int x1), some (.int x2), none, none] [] S Q) : zW l Gr (zc n w) 168 M_Mo_rush (d + 1) 4 [some (.ref 105), some (.int x1), some (.int x2), none, none] [] S Q := by
  refine z_go (Gr := Gr) (zc := zc n w) (K := 168) oV_Mo_rush 1 (pc' := 5) (L' := [some (.ref 105), some (.int x1), some (.int x2), none, none]) (st' := [.int x2]) rfl ?_
  exact z_iflt (Gr := Gr) (tgt := 15) (oV_Mo_rush.1 (5, .ifCond .lt 10) (ip_lk_mem rfl)) (by decide) (fun q => (z_forget (k0 q) trivial)) (fun q => (k1 q))
set_option maxRecDepth 100000 in
theorem b_Mo_rush_8 {l : Launch} {Gr : zG} {n w : Nat} {d : Nat} {S : zS} {Q : Option Value → zS → Prop} {x1 : Int32} {x2 : Int32}  (k0 : x1 ≤ 100000 → zW l Gr (zc n w) 168 M_Mo_rush (d + 1) 17 [some (.ref 105), some (.int x1), some (.int x2), none, none] [] S Q) (k1 : ¬ x1 ≤ 100000 → zW l Gr (zc n w) 168 M_Mo_rush (d + 1) 15 [none, none, none, none, none] [] S Q) : zW l Gr (zc n w) 168 M_Mo_rush (d + 1) 8 [some (.ref 105), some (.int x1), some (.int x2), none, none] [] S Q := by
  refine z_go (Gr := Gr) (zc := zc n w) (K := 168) oV_Mo_rush 2 (pc' := 12) (L' := [some (.ref 105), some (.int x1), some (.int x2), none, none]) (st' := [.int 100000, .int x1]) rfl ?_
  exact z_icle (Gr := Gr) (tgt := 17) (oV_Mo_rush.1 (12, .if_icmp .le 5) (ip_lk_mem rfl)) (by decide) (fun q => (k0 q)) (fun q => (z_forget (k1 q) trivial))
set_option maxRecDepth 100000 in
theorem b_Mo_rush_17 {l : Launch} {Gr : zG} {n w : Nat} {d : Nat} {S : zS} {Q : Option Value → zS → Prop} {x1 : Int32} {x2 : Int32}  (k0 : zW l Gr (zc n w) 168 M_Mo_rush (d + 1) 19 [some (.ref 105), some (.int x1), some (.int x2), some (.int 0), none] [] S Q) : zW l Gr (zc n w) 168 M_Mo_rush (d + 1) 17 [some (.ref 105), some (.int x1), some (.int x2), none, none] [] S Q := by
  refine z_go (Gr := Gr) (zc := zc n w) (K := 168) oV_Mo_rush 2 (pc' := 19) (L' := [some (.ref 105), some (.int x1), some (.int x2), some (.int 0), none]) (st' := []) rfl ?_
  exact k0
set_option maxRecDepth 100000 in
theorem b_Mo_rush_19 {l : Launch} {Gr : zG} {n w : Nat} {d : Nat} {S : zS} {Q : Option Value → zS → Prop} {x1 : Int32} {x2 : Int32} {x3 : Int32}  (k0 : x1 ≤ x3 → zW l Gr (zc n w) 168 M_Mo_rush (d + 1) 59 [none, none, none, some (.int x3), none] [] S Q) (k1 : ¬ x1 ≤ x3 → zW l Gr (zc n w) 168 M_Mo_rush (d + 1) 24 [some (.ref 105), some (.int x1), some (.int x2), some (.int x3), none] [] S Q) : zW l Gr (zc n w) 168 M_Mo_rush (d + 1) 19 [some (.ref 105), some (.int x1), some (.int x2), some (.int x3), none] [] S Q := by
  refine z_go (Gr := Gr) (zc := zc n w) (K := 168) oV_Mo_rush 2 (pc' := 21) (L' := [some (.ref 105), some (.int x1), some (.int x2), some (.int x3), none]) (st' := [.int x1, .int x3]) rfl ?_
  exact z_icge (Gr := Gr) (tgt := 59) (oV_Mo_rush.1 (21, .if_icmp .ge 38) (ip_lk_mem rfl)) (by decide) (fun q => (z_forget (k0 q) (And.intro rfl trivial))) (fun q => (k1 q))
set_option maxRecDepth 100000 in
theorem b_Mo_rush_59 {l : Launch} {Gr : zG} {n w : Nat} {d : Nat} {S : zS} {Q : Option Value → zS → Prop} {x3 : Int32}  (k0 : Q (some (.int x3)) S) : zW l Gr (zc n w) 168 M_Mo_rush (d + 1) 59 [none, none, none, some (.int x3), none] [] S Q := by
  refine z_go (Gr := Gr) (zc := zc n w) (K := 168) oV_Mo_rush 1 (pc' := 60) (L' := [none, none, none, some (.int x3), none]) (st' := [.int x3]) rfl ?_
  exact z_ret (v := (some (.int x3))) (oV_Mo_rush.1 (60, .ireturn) (ip_lk_mem rfl)) k0
set_option maxRecDepth 100000 in
theorem b_Mo_rush_24 {l : Launch} {Gr : zG} {n w : Nat} {d : Nat} {S : zS} {Q : Option Value → zS → Prop} {x1 : Int32} {x2 : Int32} {x3 : Int32}  (k0 : (S.1 73 139) ≤ 0 → zW l Gr (zc n w) 168 M_Mo_rush (d + 1) 59 [none, none, none, some (.int x3), none] [] S Q) (k1 : ¬ (S.1 73 139) ≤ 0 → zW l Gr (zc n w) 168 M_Mo_rush (d + 1) 31 [some (.ref 105), some (.int x1), some (.int x2), some (.int x3), none] [] S Q) : zW l Gr (zc n w) 168 M_Mo_rush (d + 1) 24 [some (.ref 105), some (.int x1), some (.int x2), some (.int x3), none] [] S Q := by
  refine z_go (Gr := Gr) (zc := zc n w) (K := 168) oV_Mo_rush 2 (pc' := 28) (L' := [some (.ref 105), some (.int x1), some (.int x2), some (.int x3), none]) (st' := [.int (S.1 73 139)]) rfl ?_
  exact z_ifle (Gr := Gr) (tgt := 59) (oV_Mo_rush.1 (28, .ifCond .le 31) (ip_lk_mem rfl)) (by decide) (fun q => (z_forget (k0 q) (And.intro rfl trivial))) (fun q => (k1 q))
set_option maxRecDepth 100000 in
theorem b_Mo_rush_31 {l : Launch} {Gr : zG} {n w : Nat} {d : Nat} {S : zS} {Q : Option Value → zS → Prop} {R : Int32 → zS → Prop} (hg : ip_gk (lg_tbl, vwCl, Gr)) {x1 : Int32} {x2 : Int32} {x3 : Int32} (g0 : ¬ ((S.1 73 139) : Int32) = 0) (k0 : zMi l Gr (zc n w) 168 M_Mo_takeMessage d [.ref 105, .int (x2 - x2 / (S.1 73 139) * (S.1 73 139))] S R) (k1 : ∀ v S', R v S' → zW l Gr (zc n w) 168 M_Mo_rush (d + 1) 41 [some (.ref 105), some (.int x1), some (.int x2), some (.int x3), none] [.int v] S' Q) : zW l Gr (zc n w) 168 M_Mo_rush (d + 1) 31 [some (.ref 105), some (.int x1), some (.int x2), some (.int x3), none] [] S Q := by
  refine z_go (Gr := Gr) (zc := zc n w) (K := 168) oV_Mo_rush 4 (pc' := 37) (L' := [some (.ref 105), some (.int x1), some (.int x2), some (.int x3), none]) (st' := [.int (S.1 73 139), .int x2, .ref 105]) rfl ?_
  refine z_irem (Gr := Gr) (oV_Mo_rush.1 (37, .irem) (ip_lk_mem rfl)) g0 ?_
  exact z_callV (Gr := Gr) hg.2.2.1 fT oM_Mo_takeMessage (oV_Mo_rush.1 (38, .invokevirtual 863) (ip_lk_mem rfl)) ⟨tt_11 _ (List.mem_of_getElem? (i := 19) rfl) rfl, tt_11 _ (List.mem_of_getElem? (i := 21) rfl) rfl, fS_Mo_takeMessage⟩ (c := 73) (ci := 12) (As := [.int (x2 - x2 / (S.1 73 139) * (S.1 73 139))]) rfl rfl rfl (by decide) rfl (Nat.le_of_ble_eq_true rfl) k0 (fun v S' q => by obtain ⟨x, rfl, q⟩ := q; exact (k1 _ _ q))
set_option maxRecDepth 100000 in
theorem b_Mo_rush_41 {l : Launch} {Gr : zG} {n w : Nat} {d : Nat} {S : zS} {Q : Option Value → zS → Prop} {x1 : Int32} {x2 : Int32} {x3 : Int32} {s0 : Int32}  (k0 : s0 < 0 → zW l Gr (zc n w) 168 M_Mo_rush (d + 1) 53 [some (.ref 105), some (.int x1), some (.int x2), none, none] [.int x3] S Q) (k1 : ¬ s0 < 0 → zW l Gr (zc n w) 168 M_Mo_rush (d + 1) 49 [some (.ref 105), some (.int x1), some (.int x2), none, none] [.int x3] S Q) : zW l Gr (zc n w) 168 M_Mo_rush (d + 1) 41 [some (.ref 105), some (.int x1), some (.int x2), some (.int x3), none] [.int s0] S Q := by
  refine z_go (Gr := Gr) (zc := zc n w) (K := 168) oV_Mo_rush 3 (pc' := 46) (L' := [some (.ref 105), some (.int x1), some (.int x2), some (.int x3), some (.int s0)]) (st' := [.int s0, .int x3]) rfl ?_
  exact z_iflt (Gr := Gr) (tgt := 53) (oV_Mo_rush.1 (46, .ifCond .lt 7) (ip_lk_mem rfl)) (by decide) (fun q => (z_forget (k0 q) (And.intro rfl (And.intro rfl (And.intro rfl trivial))))) (fun q => (z_forget (k1 q) (And.intro rfl (And.intro rfl (And.intro rfl trivial)))))
set_option maxRecDepth 100000 in
theorem b_Mo_rush_53 {l : Launch} {Gr : zG} {n w : Nat} {d : Nat} {S : zS} {Q : Option Value → zS → Prop} {x1 : Int32} {x2 : Int32} {s0 : Int32}  (k0 : zW l Gr (zc n w) 168 M_Mo_rush (d + 1) 54 [some (.ref 105), some (.int x1), some (.int x2), none, none] [.int 0, .int s0] S Q) : zW l Gr (zc n w) 168 M_Mo_rush (d + 1) 53 [some (.ref 105), some (.int x1), some (.int x2), none, none] [.int s0] S Q := by
  refine z_go (Gr := Gr) (zc := zc n w) (K := 168) oV_Mo_rush 1 (pc' := 54) (L' := [some (.ref 105), some (.int x1), some (.int x2), none, none]) (st' := [.int 0, .int s0]) rfl ?_
  exact k0
set_option maxRecDepth 100000 in
theorem b_Mo_rush_49 {l : Launch} {Gr : zG} {n w : Nat} {d : Nat} {S : zS} {Q : Option Value → zS → Prop} {x1 : Int32} {x2 : Int32} {s0 : Int32}  (k0 : zW l Gr (zc n w) 168 M_Mo_rush (d + 1) 54 [some (.ref 105), some (.int x1), some (.int x2), none, none] [.int 1, .int s0] S Q) : zW l Gr (zc n w) 168 M_Mo_rush (d + 1) 49 [some (.ref 105), some (.int x1), some (.int x2), none, none] [.int s0] S Q := by
  refine z_go (Gr := Gr) (zc := zc n w) (K := 168) oV_Mo_rush 2 (pc' := 54) (L' := [some (.ref 105), some (.int x1), some (.int x2), none, none]) (st' := [.int 1, .int s0]) rfl ?_
  exact k0
set_option maxRecDepth 100000 in
theorem b_Mo_rush_54 {l : Launch} {Gr : zG} {n w : Nat} {d : Nat} {S : zS} {Q : Option Value → zS → Prop} {x1 : Int32} {x2 : Int32} {s0 : Int32} {s1 : Int32}  (k0 : zW l Gr (zc n w) 168 M_Mo_rush (d + 1) 19 [some (.ref 105), some (.int x1), some (.int x2), some (.int (s1 + s0)), none] [] S Q) : zW l Gr (zc n w) 168 M_Mo_rush (d + 1) 54 [some (.ref 105), some (.int x1), some (.int x2), none, none] [.int s0, .int s1] S Q := by
  refine z_go (Gr := Gr) (zc := zc n w) (K := 168) oV_Mo_rush 3 (pc' := 19) (L' := [some (.ref 105), some (.int x1), some (.int x2), some (.int (s1 + s0)), none]) (st' := []) rfl ?_
  exact k0
theorem e_Mo_rush {l : Launch} {Gr : zG} {n w : Nat} {d : Nat} {S : zS} {R : Int32 → zS → Prop} {x1 : Int32} {x2 : Int32} (k : zW l Gr (zc n w) 168 M_Mo_rush (d + 1) 0 [some (.ref 105), some (.int x1), some (.int x2), none, none] [] S (fun v S' => ∃ x, v = some (.int x) ∧ R x S')) : zMi l Gr (zc n w) 168 M_Mo_rush (d + 1) [.ref 105, .int x1, .int x2] S R := z_mi oM_Mo_rush rfl (Nat.le_of_ble_eq_true rfl) k
set_option maxRecDepth 100000 in
theorem b_Mo_done_0 {l : Launch} {Gr : zG} {n w : Nat} {d : Nat} {S : zS} {Q : Option Value → zS → Prop}   (k0 : zW l Gr (zc n w) 168 M_Mo_done d 4 [some (.ref 105), some (.int 0), some (.int 0)] [] S Q) : zW l Gr (zc n w) 168 M_Mo_done d 0 [some (.ref 105), none, none] [] S Q := by
  refine z_go (Gr := Gr) (zc := zc n w) (K := 168) oV_Mo_done 4 (pc' := 4) (L' := [some (.ref 105), some (.int 0), some (.int 0)]) (st' := []) rfl ?_
  exact k0
set_option maxRecDepth 100000 in
theorem b_Mo_done_4 {l : Launch} {Gr : zG} {n w : Nat} {d : Nat} {S : zS} {Q : Option Value → zS → Prop} {x1 : Int32} {x2 : Int32}  (k0 : (nI n) ≤ x2 → zW l Gr (zc n w) 168 M_Mo_done d 48 [none, some (.int x1), none] [] S Q) (k1 : ¬ (nI n) ≤ x2 → zW l Gr (zc n w) 168 M_Mo_done d 12 [some (.ref 105), some (.int x1), some (.int x2)] [] S Q) : zW l Gr (zc n w) 168 M_Mo_done d 4 [some (.ref 105), some (.int x1), some (.int x2)] [] S Q := by
  refine z_go (Gr := Gr) (zc := zc n w) (K := 168) oV_Mo_done 3 (pc' := 9) (L' := [some (.ref 105), some (.int x1), some (.int x2)]) (st' := [.int (nI n), .int x2]) rfl ?_
  exact z_icge (Gr := Gr) (tgt := 48) (oV_Mo_done.1 (9, .if_icmp .ge 39) (ip_lk_mem rfl)) (by decide) (fun q => (z_forget (k0 q) (And.intro rfl trivial))) (fun q => (k1 q))
set_option maxRecDepth 100000 in
theorem b_Mo_done_48 {l : Launch} {Gr : zG} {n w : Nat} {d : Nat} {S : zS} {Q : Option Value → zS → Prop} {x1 : Int32}  (k0 : Q (some (.int x1)) S) : zW l Gr (zc n w) 168 M_Mo_done d 48 [none, some (.int x1), none] [] S Q := by
  refine z_go (Gr := Gr) (zc := zc n w) (K := 168) oV_Mo_done 1 (pc' := 49) (L' := [none, some (.int x1), none]) (st' := [.int x1]) rfl ?_
  exact z_ret (v := (some (.int x1))) (oV_Mo_done.1 (49, .ireturn) (ip_lk_mem rfl)) k0
set_option maxRecDepth 100000 in
theorem b_Mo_done_12 {l : Launch} {Gr : zG} {n w : Nat} {d : Nat} {S : zS} {Q : Option Value → zS → Prop} {x1 : Int32} {x2 : Int32}  (k0 : (S.1 73 124) = 0 → zW l Gr (zc n w) 168 M_Mo_done d 39 [some (.ref 105), none, some (.int x2)] [.int x1] S Q) (k1 : ¬ (S.1 73 124) = 0 → zW l Gr (zc n w) 168 M_Mo_done d 20 [some (.ref 105), none, some (.int x2)] [.int x1] S Q) : zW l Gr (zc n w) 168 M_Mo_done d 12 [some (.ref 105), some (.int x1), some (.int x2)] [] S Q := by
  refine z_go (Gr := Gr) (zc := zc n w) (K := 168) oV_Mo_done 3 (pc' := 17) (L' := [some (.ref 105), some (.int x1), some (.int x2)]) (st' := [.int (S.1 73 124), .int x1]) rfl ?_
  exact z_ifeq (Gr := Gr) (tgt := 39) (oV_Mo_done.1 (17, .ifCond .eq 22) (ip_lk_mem rfl)) (by decide) (fun q => (z_forget (k0 q) (And.intro rfl (And.intro rfl trivial)))) (fun q => (z_forget (k1 q) (And.intro rfl (And.intro rfl trivial))))
set_option maxRecDepth 100000 in
theorem b_Mo_done_39 {l : Launch} {Gr : zG} {n w : Nat} {d : Nat} {S : zS} {Q : Option Value → zS → Prop} {x2 : Int32} {s0 : Int32}  (k0 : zW l Gr (zc n w) 168 M_Mo_done d 40 [some (.ref 105), none, some (.int x2)] [.int 0, .int s0] S Q) : zW l Gr (zc n w) 168 M_Mo_done d 39 [some (.ref 105), none, some (.int x2)] [.int s0] S Q := by
  refine z_go (Gr := Gr) (zc := zc n w) (K := 168) oV_Mo_done 1 (pc' := 40) (L' := [some (.ref 105), none, some (.int x2)]) (st' := [.int 0, .int s0]) rfl ?_
  exact k0
set_option maxRecDepth 100000 in
theorem b_Mo_done_20 {l : Launch} {Gr : zG} {n w : Nat} {d : Nat} {S : zS} {Q : Option Value → zS → Prop} {x2 : Int32} {s0 : Int32} (g0 : vp_in x2 16) (k0 : ¬ (S.1 157 ((x2 : Int32).toNatClampNeg)) = ((S.1 73 68) + 2) → zW l Gr (zc n w) 168 M_Mo_done d 39 [some (.ref 105), none, some (.int x2)] [.int s0] S Q) (k1 : (S.1 157 ((x2 : Int32).toNatClampNeg)) = ((S.1 73 68) + 2) → zW l Gr (zc n w) 168 M_Mo_done d 35 [some (.ref 105), none, some (.int x2)] [.int s0] S Q) : zW l Gr (zc n w) 168 M_Mo_done d 20 [some (.ref 105), none, some (.int x2)] [.int s0] S Q := by
  refine z_go (Gr := Gr) (zc := zc n w) (K := 168) oV_Mo_done 3 (pc' := 25) (L' := [some (.ref 105), none, some (.int x2)]) (st' := [.int x2, .ref 189, .int s0]) rfl ?_
  refine z_iald (Gr := Gr) (c := 157) (oV_Mo_done.1 (25, .iaload) (ip_lk_mem rfl)) (by decide) rfl g0 ?_
  refine z_go (Gr := Gr) (zc := zc n w) (K := 168) oV_Mo_done 4 (pc' := 32) (L' := [some (.ref 105), none, some (.int x2)]) (st' := [.int ((S.1 73 68) + 2), .int (S.1 157 ((x2 : Int32).toNatClampNeg)), .int s0]) rfl ?_
  exact z_icne (Gr := Gr) (tgt := 39) (oV_Mo_done.1 (32, .if_icmp .ne 7) (ip_lk_mem rfl)) (by decide) (fun q => (k0 q)) (fun q => (k1 q))
set_option maxRecDepth 100000 in
theorem b_Mo_done_40 {l : Launch} {Gr : zG} {n w : Nat} {d : Nat} {S : zS} {Q : Option Value → zS → Prop} {x2 : Int32} {s0 : Int32} {s1 : Int32}  (k0 : zW l Gr (zc n w) 168 M_Mo_done d 4 [some (.ref 105), some (.int (s1 + s0)), some (.int (x2 + Int32.ofInt 1))] [] S Q) : zW l Gr (zc n w) 168 M_Mo_done d 40 [some (.ref 105), none, some (.int x2)] [.int s0, .int s1] S Q := by
  refine z_go (Gr := Gr) (zc := zc n w) (K := 168) oV_Mo_done 4 (pc' := 4) (L' := [some (.ref 105), some (.int (s1 + s0)), some (.int (x2 + Int32.ofInt 1))]) (st' := []) rfl ?_
  exact k0
set_option maxRecDepth 100000 in
theorem b_Mo_done_35 {l : Launch} {Gr : zG} {n w : Nat} {d : Nat} {S : zS} {Q : Option Value → zS → Prop} {x2 : Int32} {s0 : Int32}  (k0 : zW l Gr (zc n w) 168 M_Mo_done d 40 [some (.ref 105), none, some (.int x2)] [.int 1, .int s0] S Q) : zW l Gr (zc n w) 168 M_Mo_done d 35 [some (.ref 105), none, some (.int x2)] [.int s0] S Q := by
  refine z_go (Gr := Gr) (zc := zc n w) (K := 168) oV_Mo_done 2 (pc' := 40) (L' := [some (.ref 105), none, some (.int x2)]) (st' := [.int 1, .int s0]) rfl ?_
  exact k0
theorem e_Mo_done {l : Launch} {Gr : zG} {n w : Nat} {d : Nat} {S : zS} {R : Int32 → zS → Prop}  (k : zW l Gr (zc n w) 168 M_Mo_done d 0 [some (.ref 105), none, none] [] S (fun v S' => ∃ x, v = some (.int x) ∧ R x S')) : zMi l Gr (zc n w) 168 M_Mo_done d [.ref 105] S R := z_mi oM_Mo_done rfl (Nat.le_of_ble_eq_true rfl) k
set_option maxRecDepth 100000 in
theorem b_Mo_look_0 {l : Launch} {Gr : zG} {n w : Nat} {d : Nat} {S : zS} {Q : Option Value → zS → Prop} {x1 : Int32}  (k0 : x1 ≤ 0 → zW l Gr (zc n w) 168 M_Mo_look (d + 1) 19 [some (.ref 105), some (.int x1)] [] S Q) (k1 : ¬ x1 ≤ 0 → zW l Gr (zc n w) 168 M_Mo_look (d + 1) 4 [some (.ref 105), some (.int x1)] [] S Q) : zW l Gr (zc n w) 168 M_Mo_look (d + 1) 0 [some (.ref 105), some (.int x1)] [] S Q := by
  refine z_go (Gr := Gr) (zc := zc n w) (K := 168) oV_Mo_look 1 (pc' := 1) (L' := [some (.ref 105), some (.int x1)]) (st' := [.int x1]) rfl ?_
  exact z_ifle (Gr := Gr) (tgt := 19) (oV_Mo_look.1 (1, .ifCond .le 18) (ip_lk_mem rfl)) (by decide) (fun q => (k0 q)) (fun q => (k1 q))
set_option maxRecDepth 100000 in
theorem b_Mo_look_19 {l : Launch} {Gr : zG} {n w : Nat} {d : Nat} {S : zS} {Q : Option Value → zS → Prop} {x1 : Int32}  (k0 : x1 = 0 → zW l Gr (zc n w) 168 M_Mo_look (d + 1) 96 [some (.ref 105), none] [] S Q) (k1 : x1 = 1 → zW l Gr (zc n w) 168 M_Mo_look (d + 1) 101 [some (.ref 105), none] [] S Q) (k2 : x1 = 2 → zW l Gr (zc n w) 168 M_Mo_look (d + 1) 106 [some (.ref 105), none] [] S Q) (k3 : x1 = 3 → zW l Gr (zc n w) 168 M_Mo_look (d + 1) 111 [some (.ref 105), none] [] S Q) (k4 : x1 = 4 → zW l Gr (zc n w) 168 M_Mo_look (d + 1) 116 [some (.ref 105), none] [] S Q) (k5 : x1 = 5 → zW l Gr (zc n w) 168 M_Mo_look (d + 1) 121 [some (.ref 105), none] [] S Q) (k6 : x1 = 6 → zW l Gr (zc n w) 168 M_Mo_look (d + 1) 126 [some (.ref 105), none] [] S Q) (k7 : x1 = 7 → zW l Gr (zc n w) 168 M_Mo_look (d + 1) 131 [some (.ref 105), none] [] S Q) (k8 : x1 = 8 → zW l Gr (zc n w) 168 M_Mo_look (d + 1) 157 [some (.ref 105), none] [] S Q) (k9 : x1 = 9 → zW l Gr (zc n w) 168 M_Mo_look (d + 1) 162 [some (.ref 105), none] [] S Q) (k10 : x1 = 10 → zW l Gr (zc n w) 168 M_Mo_look (d + 1) 167 [some (.ref 105), none] [] S Q) (k11 : x1 = 11 → zW l Gr (zc n w) 168 M_Mo_look (d + 1) 172 [some (.ref 105), none] [] S Q) (k12 : x1 = 12 → zW l Gr (zc n w) 168 M_Mo_look (d + 1) 177 [some (.ref 105), none] [] S Q) (k13 : x1 = 13 → zW l Gr (zc n w) 168 M_Mo_look (d + 1) 201 [some (.ref 105), none] [] S Q) (k14 : x1 = 14 → zW l Gr (zc n w) 168 M_Mo_look (d + 1) 206 [some (.ref 105), none] [] S Q) (k15 : ¬ x1 = 0 → ¬ x1 = 1 → ¬ x1 = 2 → ¬ x1 = 3 → ¬ x1 = 4 → ¬ x1 = 5 → ¬ x1 = 6 → ¬ x1 = 7 → ¬ x1 = 8 → ¬ x1 = 9 → ¬ x1 = 10 → ¬ x1 = 11 → ¬ x1 = 12 → ¬ x1 = 13 → ¬ x1 = 14 → zW l Gr (zc n w) 168 M_Mo_look (d + 1) 211 [none, none] [] S Q) : zW l Gr (zc n w) 168 M_Mo_look (d + 1) 19 [some (.ref 105), some (.int x1)] [] S Q := by
  refine z_go (Gr := Gr) (zc := zc n w) (K := 168) oV_Mo_look 1 (pc' := 20) (L' := [some (.ref 105), some (.int x1)]) (st' := [.int x1]) rfl ?_
  by_cases q0 : x1 = 0
  · exact z_tabI (Gr := Gr) (tgt := 96) (oV_Mo_look.1 (20, .tableswitch 191 0 14 #[76, 81, 86, 91, 96, 101, 106, 111, 137, 142, 147, 152, 157, 181, 186]) (ip_lk_mem rfl)) (by rw [q0]; decide) (by rw [q0]; decide) (off := 76) (by rw [q0]; rfl) (by decide) (z_forget (k0 q0) (And.intro rfl trivial))
  by_cases q1 : x1 = 1
  · exact z_tabI (Gr := Gr) (tgt := 101) (oV_Mo_look.1 (20, .tableswitch 191 0 14 #[76, 81, 86, 91, 96, 101, 106, 111, 137, 142, 147, 152, 157, 181, 186]) (ip_lk_mem rfl)) (by rw [q1]; decide) (by rw [q1]; decide) (off := 81) (by rw [q1]; rfl) (by decide) (z_forget (k1 q1) (And.intro rfl trivial))
  by_cases q2 : x1 = 2
  · exact z_tabI (Gr := Gr) (tgt := 106) (oV_Mo_look.1 (20, .tableswitch 191 0 14 #[76, 81, 86, 91, 96, 101, 106, 111, 137, 142, 147, 152, 157, 181, 186]) (ip_lk_mem rfl)) (by rw [q2]; decide) (by rw [q2]; decide) (off := 86) (by rw [q2]; rfl) (by decide) (z_forget (k2 q2) (And.intro rfl trivial))
  by_cases q3 : x1 = 3
  · exact z_tabI (Gr := Gr) (tgt := 111) (oV_Mo_look.1 (20, .tableswitch 191 0 14 #[76, 81, 86, 91, 96, 101, 106, 111, 137, 142, 147, 152, 157, 181, 186]) (ip_lk_mem rfl)) (by rw [q3]; decide) (by rw [q3]; decide) (off := 91) (by rw [q3]; rfl) (by decide) (z_forget (k3 q3) (And.intro rfl trivial))
  by_cases q4 : x1 = 4
  · exact z_tabI (Gr := Gr) (tgt := 116) (oV_Mo_look.1 (20, .tableswitch 191 0 14 #[76, 81, 86, 91, 96, 101, 106, 111, 137, 142, 147, 152, 157, 181, 186]) (ip_lk_mem rfl)) (by rw [q4]; decide) (by rw [q4]; decide) (off := 96) (by rw [q4]; rfl) (by decide) (z_forget (k4 q4) (And.intro rfl trivial))
  by_cases q5 : x1 = 5
  · exact z_tabI (Gr := Gr) (tgt := 121) (oV_Mo_look.1 (20, .tableswitch 191 0 14 #[76, 81, 86, 91, 96, 101, 106, 111, 137, 142, 147, 152, 157, 181, 186]) (ip_lk_mem rfl)) (by rw [q5]; decide) (by rw [q5]; decide) (off := 101) (by rw [q5]; rfl) (by decide) (z_forget (k5 q5) (And.intro rfl trivial))
  by_cases q6 : x1 = 6
  · exact z_tabI (Gr := Gr) (tgt := 126) (oV_Mo_look.1 (20, .tableswitch 191 0 14 #[76, 81, 86, 91, 96, 101, 106, 111, 137, 142, 147, 152, 157, 181, 186]) (ip_lk_mem rfl)) (by rw [q6]; decide) (by rw [q6]; decide) (off := 106) (by rw [q6]; rfl) (by decide) (z_forget (k6 q6) (And.intro rfl trivial))
  by_cases q7 : x1 = 7
  · exact z_tabI (Gr := Gr) (tgt := 131) (oV_Mo_look.1 (20, .tableswitch 191 0 14 #[76, 81, 86, 91, 96, 101, 106, 111, 137, 142, 147, 152, 157, 181, 186]) (ip_lk_mem rfl)) (by rw [q7]; decide) (by rw [q7]; decide) (off := 111) (by rw [q7]; rfl) (by decide) (z_forget (k7 q7) (And.intro rfl trivial))
  by_cases q8 : x1 = 8
  · exact z_tabI (Gr := Gr) (tgt := 157) (oV_Mo_look.1 (20, .tableswitch 191 0 14 #[76, 81, 86, 91, 96, 101, 106, 111, 137, 142, 147, 152, 157, 181, 186]) (ip_lk_mem rfl)) (by rw [q8]; decide) (by rw [q8]; decide) (off := 137) (by rw [q8]; rfl) (by decide) (z_forget (k8 q8) (And.intro rfl trivial))
  by_cases q9 : x1 = 9
  · exact z_tabI (Gr := Gr) (tgt := 162) (oV_Mo_look.1 (20, .tableswitch 191 0 14 #[76, 81, 86, 91, 96, 101, 106, 111, 137, 142, 147, 152, 157, 181, 186]) (ip_lk_mem rfl)) (by rw [q9]; decide) (by rw [q9]; decide) (off := 142) (by rw [q9]; rfl) (by decide) (z_forget (k9 q9) (And.intro rfl trivial))
  by_cases q10 : x1 = 10
  · exact z_tabI (Gr := Gr) (tgt := 167) (oV_Mo_look.1 (20, .tableswitch 191 0 14 #[76, 81, 86, 91, 96, 101, 106, 111, 137, 142, 147, 152, 157, 181, 186]) (ip_lk_mem rfl)) (by rw [q10]; decide) (by rw [q10]; decide) (off := 147) (by rw [q10]; rfl) (by decide) (z_forget (k10 q10) (And.intro rfl trivial))
  by_cases q11 : x1 = 11
  · exact z_tabI (Gr := Gr) (tgt := 172) (oV_Mo_look.1 (20, .tableswitch 191 0 14 #[76, 81, 86, 91, 96, 101, 106, 111, 137, 142, 147, 152, 157, 181, 186]) (ip_lk_mem rfl)) (by rw [q11]; decide) (by rw [q11]; decide) (off := 152) (by rw [q11]; rfl) (by decide) (z_forget (k11 q11) (And.intro rfl trivial))
  by_cases q12 : x1 = 12
  · exact z_tabI (Gr := Gr) (tgt := 177) (oV_Mo_look.1 (20, .tableswitch 191 0 14 #[76, 81, 86, 91, 96, 101, 106, 111, 137, 142, 147, 152, 157, 181, 186]) (ip_lk_mem rfl)) (by rw [q12]; decide) (by rw [q12]; decide) (off := 157) (by rw [q12]; rfl) (by decide) (z_forget (k12 q12) (And.intro rfl trivial))
  by_cases q13 : x1 = 13
  · exact z_tabI (Gr := Gr) (tgt := 201) (oV_Mo_look.1 (20, .tableswitch 191 0 14 #[76, 81, 86, 91, 96, 101, 106, 111, 137, 142, 147, 152, 157, 181, 186]) (ip_lk_mem rfl)) (by rw [q13]; decide) (by rw [q13]; decide) (off := 181) (by rw [q13]; rfl) (by decide) (z_forget (k13 q13) (And.intro rfl trivial))
  by_cases q14 : x1 = 14
  · exact z_tabI (Gr := Gr) (tgt := 206) (oV_Mo_look.1 (20, .tableswitch 191 0 14 #[76, 81, 86, 91, 96, 101, 106, 111, 137, 142, 147, 152, 157, 181, 186]) (ip_lk_mem rfl)) (by rw [q14]; decide) (by rw [q14]; decide) (off := 186) (by rw [q14]; rfl) (by decide) (z_forget (k14 q14) (And.intro rfl trivial))
  have hO : (x1).toInt < 0 ∨ 14 < (x1).toInt := by
    have r0 : ¬ (x1).toInt = 0 := fun h => q0 (Int32.toInt_inj.mp h)
    have r1 : ¬ (x1).toInt = 1 := fun h => q1 (Int32.toInt_inj.mp h)
    have r2 : ¬ (x1).toInt = 2 := fun h => q2 (Int32.toInt_inj.mp h)
    have r3 : ¬ (x1).toInt = 3 := fun h => q3 (Int32.toInt_inj.mp h)
    have r4 : ¬ (x1).toInt = 4 := fun h => q4 (Int32.toInt_inj.mp h)
    have r5 : ¬ (x1).toInt = 5 := fun h => q5 (Int32.toInt_inj.mp h)
    have r6 : ¬ (x1).toInt = 6 := fun h => q6 (Int32.toInt_inj.mp h)
    have r7 : ¬ (x1).toInt = 7 := fun h => q7 (Int32.toInt_inj.mp h)
    have r8 : ¬ (x1).toInt = 8 := fun h => q8 (Int32.toInt_inj.mp h)
    have r9 : ¬ (x1).toInt = 9 := fun h => q9 (Int32.toInt_inj.mp h)
    have r10 : ¬ (x1).toInt = 10 := fun h => q10 (Int32.toInt_inj.mp h)
    have r11 : ¬ (x1).toInt = 11 := fun h => q11 (Int32.toInt_inj.mp h)
    have r12 : ¬ (x1).toInt = 12 := fun h => q12 (Int32.toInt_inj.mp h)
    have r13 : ¬ (x1).toInt = 13 := fun h => q13 (Int32.toInt_inj.mp h)
    have r14 : ¬ (x1).toInt = 14 := fun h => q14 (Int32.toInt_inj.mp h)
    omega
  exact z_tabO (Gr := Gr) (tgt := 211) (oV_Mo_look.1 (20, .tableswitch 191 0 14 #[76, 81, 86, 91, 96, 101, 106, 111, 137, 142, 147, 152, 157, 181, 186]) (ip_lk_mem rfl)) hO (by decide) (z_forget (k15 q0 q1 q2 q3 q4 q5 q6 q7 q8 q9 q10 q11 q12 q13 q14) trivial)
set_option maxRecDepth 100000 in
theorem b_Mo_look_4 {l : Launch} {Gr : zG} {n w : Nat} {d : Nat} {S : zS} {Q : Option Value → zS → Prop} {x1 : Int32}  (k0 : 9 ≤ x1 → zW l Gr (zc n w) 168 M_Mo_look (d + 1) 19 [some (.ref 105), some (.int x1)] [] S Q) (k1 : ¬ 9 ≤ x1 → zW l Gr (zc n w) 168 M_Mo_look (d + 1) 10 [some (.ref 105), some (.int x1)] [] S Q) : zW l Gr (zc n w) 168 M_Mo_look (d + 1) 4 [some (.ref 105), some (.int x1)] [] S Q := by
  refine z_go (Gr := Gr) (zc := zc n w) (K := 168) oV_Mo_look 2 (pc' := 7) (L' := [some (.ref 105), some (.int x1)]) (st' := [.int 9, .int x1]) rfl ?_
  exact z_icge (Gr := Gr) (tgt := 19) (oV_Mo_look.1 (7, .if_icmp .ge 12) (ip_lk_mem rfl)) (by decide) (fun q => (k0 q)) (fun q => (k1 q))
set_option maxRecDepth 100000 in
theorem b_Mo_look_211 {l : Launch} {Gr : zG} {n w : Nat} {d : Nat} {S : zS} {Q : Option Value → zS → Prop}   (k0 : Q (some (.int (-1))) S) : zW l Gr (zc n w) 168 M_Mo_look (d + 1) 211 [none, none] [] S Q := by
  refine z_go (Gr := Gr) (zc := zc n w) (K := 168) oV_Mo_look 1 (pc' := 212) (L' := [none, none]) (st' := [.int (-1)]) rfl ?_
  exact z_ret (v := (some (.int (-1)))) (oV_Mo_look.1 (212, .ireturn) (ip_lk_mem rfl)) k0
set_option maxRecDepth 100000 in
theorem b_Mo_look_96 {l : Launch} {Gr : zG} {n w : Nat} {d : Nat} {S : zS} {Q : Option Value → zS → Prop}   (k0 : Q (some (.int (S.1 73 8))) S) : zW l Gr (zc n w) 168 M_Mo_look (d + 1) 96 [some (.ref 105), none] [] S Q := by
  refine z_go (Gr := Gr) (zc := zc n w) (K := 168) oV_Mo_look 2 (pc' := 100) (L' := [some (.ref 105), none]) (st' := [.int (S.1 73 8)]) rfl ?_
  exact z_ret (v := (some (.int (S.1 73 8)))) (oV_Mo_look.1 (100, .ireturn) (ip_lk_mem rfl)) k0
set_option maxRecDepth 100000 in
theorem b_Mo_look_101 {l : Launch} {Gr : zG} {n w : Nat} {d : Nat} {S : zS} {Q : Option Value → zS → Prop}   (k0 : Q (some (.int (S.1 73 66))) S) : zW l Gr (zc n w) 168 M_Mo_look (d + 1) 101 [some (.ref 105), none] [] S Q := by
  refine z_go (Gr := Gr) (zc := zc n w) (K := 168) oV_Mo_look 2 (pc' := 105) (L' := [some (.ref 105), none]) (st' := [.int (S.1 73 66)]) rfl ?_
  exact z_ret (v := (some (.int (S.1 73 66)))) (oV_Mo_look.1 (105, .ireturn) (ip_lk_mem rfl)) k0
set_option maxRecDepth 100000 in
theorem b_Mo_look_106 {l : Launch} {Gr : zG} {n w : Nat} {d : Nat} {S : zS} {Q : Option Value → zS → Prop}   (k0 : Q (some (.int (S.1 73 67))) S) : zW l Gr (zc n w) 168 M_Mo_look (d + 1) 106 [some (.ref 105), none] [] S Q := by
  refine z_go (Gr := Gr) (zc := zc n w) (K := 168) oV_Mo_look 2 (pc' := 110) (L' := [some (.ref 105), none]) (st' := [.int (S.1 73 67)]) rfl ?_
  exact z_ret (v := (some (.int (S.1 73 67)))) (oV_Mo_look.1 (110, .ireturn) (ip_lk_mem rfl)) k0
set_option maxRecDepth 100000 in
theorem b_Mo_look_111 {l : Launch} {Gr : zG} {n w : Nat} {d : Nat} {S : zS} {Q : Option Value → zS → Prop}   (k0 : Q (some (.int (S.1 73 68))) S) : zW l Gr (zc n w) 168 M_Mo_look (d + 1) 111 [some (.ref 105), none] [] S Q := by
  refine z_go (Gr := Gr) (zc := zc n w) (K := 168) oV_Mo_look 2 (pc' := 115) (L' := [some (.ref 105), none]) (st' := [.int (S.1 73 68)]) rfl ?_
  exact z_ret (v := (some (.int (S.1 73 68)))) (oV_Mo_look.1 (115, .ireturn) (ip_lk_mem rfl)) k0
set_option maxRecDepth 100000 in
theorem b_Mo_look_116 {l : Launch} {Gr : zG} {n w : Nat} {d : Nat} {S : zS} {Q : Option Value → zS → Prop}   (k0 : Q (some (.int (S.1 73 65))) S) : zW l Gr (zc n w) 168 M_Mo_look (d + 1) 116 [some (.ref 105), none] [] S Q := by
  refine z_go (Gr := Gr) (zc := zc n w) (K := 168) oV_Mo_look 2 (pc' := 120) (L' := [some (.ref 105), none]) (st' := [.int (S.1 73 65)]) rfl ?_
  exact z_ret (v := (some (.int (S.1 73 65)))) (oV_Mo_look.1 (120, .ireturn) (ip_lk_mem rfl)) k0
set_option maxRecDepth 100000 in
theorem b_Mo_look_121 {l : Launch} {Gr : zG} {n w : Nat} {d : Nat} {S : zS} {Q : Option Value → zS → Prop}   (k0 : Q (some (.int (S.1 73 75))) S) : zW l Gr (zc n w) 168 M_Mo_look (d + 1) 121 [some (.ref 105), none] [] S Q := by
  refine z_go (Gr := Gr) (zc := zc n w) (K := 168) oV_Mo_look 2 (pc' := 125) (L' := [some (.ref 105), none]) (st' := [.int (S.1 73 75)]) rfl ?_
  exact z_ret (v := (some (.int (S.1 73 75)))) (oV_Mo_look.1 (125, .ireturn) (ip_lk_mem rfl)) k0
set_option maxRecDepth 100000 in
theorem b_Mo_look_126 {l : Launch} {Gr : zG} {n w : Nat} {d : Nat} {S : zS} {Q : Option Value → zS → Prop}   (k0 : Q (some (.int (S.1 73 69))) S) : zW l Gr (zc n w) 168 M_Mo_look (d + 1) 126 [some (.ref 105), none] [] S Q := by
  refine z_go (Gr := Gr) (zc := zc n w) (K := 168) oV_Mo_look 2 (pc' := 130) (L' := [some (.ref 105), none]) (st' := [.int (S.1 73 69)]) rfl ?_
  exact z_ret (v := (some (.int (S.1 73 69)))) (oV_Mo_look.1 (130, .ireturn) (ip_lk_mem rfl)) k0
set_option maxRecDepth 100000 in
theorem b_Mo_look_131 {l : Launch} {Gr : zG} {n w : Nat} {d : Nat} {S : zS} {Q : Option Value → zS → Prop}   (k0 : Q (some (.int (((S.1 73 65) * ((nI n) - 1)) + ((S.1 73 67) * ((3 * (nI n)) - 1))))) S) : zW l Gr (zc n w) 168 M_Mo_look (d + 1) 131 [some (.ref 105), none] [] S Q := by
  refine z_go (Gr := Gr) (zc := zc n w) (K := 168) oV_Mo_look 17 (pc' := 156) (L' := [some (.ref 105), none]) (st' := [.int (((S.1 73 65) * ((nI n) - 1)) + ((S.1 73 67) * ((3 * (nI n)) - 1)))]) rfl ?_
  exact z_ret (v := (some (.int (((S.1 73 65) * ((nI n) - 1)) + ((S.1 73 67) * ((3 * (nI n)) - 1)))))) (oV_Mo_look.1 (156, .ireturn) (ip_lk_mem rfl)) k0
set_option maxRecDepth 100000 in
theorem b_Mo_look_157 {l : Launch} {Gr : zG} {n w : Nat} {d : Nat} {S : zS} {Q : Option Value → zS → Prop}   (k0 : Q (some (.int (S.1 73 70))) S) : zW l Gr (zc n w) 168 M_Mo_look (d + 1) 157 [some (.ref 105), none] [] S Q := by
  refine z_go (Gr := Gr) (zc := zc n w) (K := 168) oV_Mo_look 2 (pc' := 161) (L' := [some (.ref 105), none]) (st' := [.int (S.1 73 70)]) rfl ?_
  exact z_ret (v := (some (.int (S.1 73 70)))) (oV_Mo_look.1 (161, .ireturn) (ip_lk_mem rfl)) k0
set_option maxRecDepth 100000 in
theorem b_Mo_look_162 {l : Launch} {Gr : zG} {n w : Nat} {d : Nat} {S : zS} {Q : Option Value → zS → Prop}   (k0 : Q (some (.int (S.1 73 139))) S) : zW l Gr (zc n w) 168 M_Mo_look (d + 1) 162 [some (.ref 105), none] [] S Q := by
  refine z_go (Gr := Gr) (zc := zc n w) (K := 168) oV_Mo_look 2 (pc' := 166) (L' := [some (.ref 105), none]) (st' := [.int (S.1 73 139)]) rfl ?_
  exact z_ret (v := (some (.int (S.1 73 139)))) (oV_Mo_look.1 (166, .ireturn) (ip_lk_mem rfl)) k0
set_option maxRecDepth 100000 in
theorem b_Mo_look_167 {l : Launch} {Gr : zG} {n w : Nat} {d : Nat} {S : zS} {Q : Option Value → zS → Prop}   (k0 : Q (some (.int (S.1 73 140))) S) : zW l Gr (zc n w) 168 M_Mo_look (d + 1) 167 [some (.ref 105), none] [] S Q := by
  refine z_go (Gr := Gr) (zc := zc n w) (K := 168) oV_Mo_look 2 (pc' := 171) (L' := [some (.ref 105), none]) (st' := [.int (S.1 73 140)]) rfl ?_
  exact z_ret (v := (some (.int (S.1 73 140)))) (oV_Mo_look.1 (171, .ireturn) (ip_lk_mem rfl)) k0
set_option maxRecDepth 100000 in
theorem b_Mo_look_172 {l : Launch} {Gr : zG} {n w : Nat} {d : Nat} {S : zS} {Q : Option Value → zS → Prop} {R : Int32 → zS → Prop} (hg : ip_gk (lg_tbl, vwCl, Gr))   (k0 : zMi l Gr (zc n w) 168 M_Mo_done d [.ref 105] S R) (k1 : ∀ v S', R v S' → zW l Gr (zc n w) 168 M_Mo_look (d + 1) 176 [none, none] [.int v] S' Q) : zW l Gr (zc n w) 168 M_Mo_look (d + 1) 172 [some (.ref 105), none] [] S Q := by
  refine z_go (Gr := Gr) (zc := zc n w) (K := 168) oV_Mo_look 1 (pc' := 173) (L' := [some (.ref 105), none]) (st' := [.ref 105]) rfl ?_
  exact z_callV (Gr := Gr) hg.2.2.1 fT oM_Mo_done (oV_Mo_look.1 (173, .invokevirtual 854) (ip_lk_mem rfl)) ⟨tt_10 _ (List.mem_of_getElem? (i := 189) rfl) rfl, tt_10 _ (List.mem_of_getElem? (i := 191) rfl) rfl, fS_Mo_done⟩ (c := 73) (ci := 12) (As := []) rfl rfl rfl (by decide) rfl (Nat.le_of_ble_eq_true rfl) k0 (fun v S' q => by obtain ⟨x, rfl, q⟩ := q; exact (z_forget (k1 _ _ q) trivial))
set_option maxRecDepth 100000 in
theorem b_Mo_look_177 {l : Launch} {Gr : zG} {n w : Nat} {d : Nat} {S : zS} {Q : Option Value → zS → Prop}   (k0 : ¬ (S.1 73 83) = 0 → zW l Gr (zc n w) 168 M_Mo_look (d + 1) 188 [some (.ref 105), none] [] S Q) (k1 : (S.1 73 83) = 0 → zW l Gr (zc n w) 168 M_Mo_look (d + 1) 184 [none, none] [] S Q) : zW l Gr (zc n w) 168 M_Mo_look (d + 1) 177 [some (.ref 105), none] [] S Q := by
  refine z_go (Gr := Gr) (zc := zc n w) (K := 168) oV_Mo_look 2 (pc' := 181) (L' := [some (.ref 105), none]) (st' := [.int (S.1 73 83)]) rfl ?_
  exact z_ifne (Gr := Gr) (tgt := 188) (oV_Mo_look.1 (181, .ifCond .ne 7) (ip_lk_mem rfl)) (by decide) (fun q => (k0 q)) (fun q => (z_forget (k1 q) trivial))
set_option maxRecDepth 100000 in
theorem b_Mo_look_201 {l : Launch} {Gr : zG} {n w : Nat} {d : Nat} {S : zS} {Q : Option Value → zS → Prop}   (k0 : Q (some (.int (S.1 73 121))) S) : zW l Gr (zc n w) 168 M_Mo_look (d + 1) 201 [some (.ref 105), none] [] S Q := by
  refine z_go (Gr := Gr) (zc := zc n w) (K := 168) oV_Mo_look 2 (pc' := 205) (L' := [some (.ref 105), none]) (st' := [.int (S.1 73 121)]) rfl ?_
  exact z_ret (v := (some (.int (S.1 73 121)))) (oV_Mo_look.1 (205, .ireturn) (ip_lk_mem rfl)) k0
set_option maxRecDepth 100000 in
theorem b_Mo_look_206 {l : Launch} {Gr : zG} {n w : Nat} {d : Nat} {S : zS} {Q : Option Value → zS → Prop}   (k0 : Q (some (.int (S.1 73 120))) S) : zW l Gr (zc n w) 168 M_Mo_look (d + 1) 206 [some (.ref 105), none] [] S Q := by
  refine z_go (Gr := Gr) (zc := zc n w) (K := 168) oV_Mo_look 2 (pc' := 210) (L' := [some (.ref 105), none]) (st' := [.int (S.1 73 120)]) rfl ?_
  exact z_ret (v := (some (.int (S.1 73 120)))) (oV_Mo_look.1 (210, .ireturn) (ip_lk_mem rfl)) k0
set_option maxRecDepth 100000 in
theorem b_Mo_look_10 {l : Launch} {Gr : zG} {n w : Nat} {d : Nat} {S : zS} {Q : Option Value → zS → Prop} {x1 : Int32}  (k0 : ¬ (S.1 73 83) = 0 → zW l Gr (zc n w) 168 M_Mo_look (d + 1) 19 [some (.ref 105), some (.int x1)] [] S Q) (k1 : (S.1 73 83) = 0 → zW l Gr (zc n w) 168 M_Mo_look (d + 1) 17 [none, none] [] S Q) : zW l Gr (zc n w) 168 M_Mo_look (d + 1) 10 [some (.ref 105), some (.int x1)] [] S Q := by
  refine z_go (Gr := Gr) (zc := zc n w) (K := 168) oV_Mo_look 2 (pc' := 14) (L' := [some (.ref 105), some (.int x1)]) (st' := [.int (S.1 73 83)]) rfl ?_
  exact z_ifne (Gr := Gr) (tgt := 19) (oV_Mo_look.1 (14, .ifCond .ne 5) (ip_lk_mem rfl)) (by decide) (fun q => (k0 q)) (fun q => (z_forget (k1 q) trivial))
set_option maxRecDepth 100000 in
theorem b_Mo_look_176 {l : Launch} {Gr : zG} {n w : Nat} {d : Nat} {S : zS} {Q : Option Value → zS → Prop} {s0 : Int32}  (k0 : Q (some (.int s0)) S) : zW l Gr (zc n w) 168 M_Mo_look (d + 1) 176 [none, none] [.int s0] S Q := by
  exact z_ret (v := (some (.int s0))) (oV_Mo_look.1 (176, .ireturn) (ip_lk_mem rfl)) k0
set_option maxRecDepth 100000 in
theorem b_Mo_look_188 {l : Launch} {Gr : zG} {n w : Nat} {d : Nat} {S : zS} {Q : Option Value → zS → Prop}   (k0 : (S.1 73 124) = 0 → zW l Gr (zc n w) 168 M_Mo_look (d + 1) 199 [none, none] [] S Q) (k1 : ¬ (S.1 73 124) = 0 → zW l Gr (zc n w) 168 M_Mo_look (d + 1) 195 [none, none] [] S Q) : zW l Gr (zc n w) 168 M_Mo_look (d + 1) 188 [some (.ref 105), none] [] S Q := by
  refine z_go (Gr := Gr) (zc := zc n w) (K := 168) oV_Mo_look 2 (pc' := 192) (L' := [some (.ref 105), none]) (st' := [.int (S.1 73 124)]) rfl ?_
  exact z_ifeq (Gr := Gr) (tgt := 199) (oV_Mo_look.1 (192, .ifCond .eq 7) (ip_lk_mem rfl)) (by decide) (fun q => (z_forget (k0 q) trivial)) (fun q => (z_forget (k1 q) trivial))
set_option maxRecDepth 100000 in
theorem b_Mo_look_184 {l : Launch} {Gr : zG} {n w : Nat} {d : Nat} {S : zS} {Q : Option Value → zS → Prop}   (k0 : zW l Gr (zc n w) 168 M_Mo_look (d + 1) 200 [none, none] [.int 0] S Q) : zW l Gr (zc n w) 168 M_Mo_look (d + 1) 184 [none, none] [] S Q := by
  refine z_go (Gr := Gr) (zc := zc n w) (K := 168) oV_Mo_look 2 (pc' := 200) (L' := [none, none]) (st' := [.int 0]) rfl ?_
  exact k0
set_option maxRecDepth 100000 in
theorem b_Mo_look_17 {l : Launch} {Gr : zG} {n w : Nat} {d : Nat} {S : zS} {Q : Option Value → zS → Prop}   (k0 : Q (some (.int (-1))) S) : zW l Gr (zc n w) 168 M_Mo_look (d + 1) 17 [none, none] [] S Q := by
  refine z_go (Gr := Gr) (zc := zc n w) (K := 168) oV_Mo_look 1 (pc' := 18) (L' := [none, none]) (st' := [.int (-1)]) rfl ?_
  exact z_ret (v := (some (.int (-1)))) (oV_Mo_look.1 (18, .ireturn) (ip_lk_mem rfl)) k0
set_option maxRecDepth 100000 in
theorem b_Mo_look_199 {l : Launch} {Gr : zG} {n w : Nat} {d : Nat} {S : zS} {Q : Option Value → zS → Prop}   (k0 : zW l Gr (zc n w) 168 M_Mo_look (d + 1) 200 [none, none] [.int 1] S Q) : zW l Gr (zc n w) 168 M_Mo_look (d + 1) 199 [none, none] [] S Q := by
  refine z_go (Gr := Gr) (zc := zc n w) (K := 168) oV_Mo_look 1 (pc' := 200) (L' := [none, none]) (st' := [.int 1]) rfl ?_
  exact k0
set_option maxRecDepth 100000 in
theorem b_Mo_look_195 {l : Launch} {Gr : zG} {n w : Nat} {d : Nat} {S : zS} {Q : Option Value → zS → Prop}   (k0 : zW l Gr (zc n w) 168 M_Mo_look (d + 1) 200 [none, none] [.int 2] S Q) : zW l Gr (zc n w) 168 M_Mo_look (d + 1) 195 [none, none] [] S Q := by
  refine z_go (Gr := Gr) (zc := zc n w) (K := 168) oV_Mo_look 2 (pc' := 200) (L' := [none, none]) (st' := [.int 2]) rfl ?_
  exact k0
set_option maxRecDepth 100000 in
theorem b_Mo_look_200 {l : Launch} {Gr : zG} {n w : Nat} {d : Nat} {S : zS} {Q : Option Value → zS → Prop} {s0 : Int32}  (k0 : Q (some (.int s0)) S) : zW l Gr (zc n w) 168 M_Mo_look (d + 1) 200 [none, none] [.int s0] S Q := by
  exact z_ret (v := (some (.int s0))) (oV_Mo_look.1 (200, .ireturn) (ip_lk_mem rfl)) k0
theorem e_Mo_look {l : Launch} {Gr : zG} {n w : Nat} {d : Nat} {S : zS} {R : Int32 → zS → Prop} {x1 : Int32} (k : zW l Gr (zc n w) 168 M_Mo_look (d + 1) 0 [some (.ref 105), some (.int x1)] [] S (fun v S' => ∃ x, v = some (.int x) ∧ R x S')) : zMi l Gr (zc n w) 168 M_Mo_look (d + 1) [.ref 105, .int x1] S R := z_mi oM_Mo_look rfl (Nat.le_of_ble_eq_true rfl) k
set_option maxRecDepth 100000 in
theorem b_Mo_draws_0 {l : Launch} {Gr : zG} {n w : Nat} {d : Nat} {S : zS} {Q : Option Value → zS → Prop} {x1 : Int64} {x3 : Int32}  (k0 : x3 < 0 → zW l Gr (zc n w) 168 M_Mo_draws d 22 [none, none, none, none, none] [] S Q) (k1 : ¬ x3 < 0 → zW l Gr (zc n w) 168 M_Mo_draws d 4 [some (.ref 105), some (.long x1), none, some (.int x3), none] [] S Q) : zW l Gr (zc n w) 168 M_Mo_draws d 0 [some (.ref 105), some (.long x1), none, some (.int x3), none] [] S Q := by
  refine z_go (Gr := Gr) (zc := zc n w) (K := 168) oV_Mo_draws 1 (pc' := 1) (L' := [some (.ref 105), some (.long x1), none, some (.int x3), none]) (st' := [.int x3]) rfl ?_
  exact z_iflt (Gr := Gr) (tgt := 22) (oV_Mo_draws.1 (1, .ifCond .lt 21) (ip_lk_mem rfl)) (by decide) (fun q => (z_forget (k0 q) trivial)) (fun q => (k1 q))
set_option maxRecDepth 100000 in
theorem b_Mo_draws_22 {l : Launch} {Gr : zG} {n w : Nat} {d : Nat} {S : zS} {Q : Option Value → zS → Prop}   (k0 : Q (some (.int (-1))) S) : zW l Gr (zc n w) 168 M_Mo_draws d 22 [none, none, none, none, none] [] S Q := by
  refine z_go (Gr := Gr) (zc := zc n w) (K := 168) oV_Mo_draws 1 (pc' := 23) (L' := [none, none, none, none, none]) (st' := [.int (-1)]) rfl ?_
  exact z_ret (v := (some (.int (-1)))) (oV_Mo_draws.1 (23, .ireturn) (ip_lk_mem rfl)) k0
set_option maxRecDepth 100000 in
theorem b_Mo_draws_4 {l : Launch} {Gr : zG} {n w : Nat} {d : Nat} {S : zS} {Q : Option Value → zS → Prop} {x1 : Int64} {x3 : Int32}  (k0 : 64 < x3 → zW l Gr (zc n w) 168 M_Mo_draws d 22 [none, none, none, none, none] [] S Q) (k1 : ¬ 64 < x3 → zW l Gr (zc n w) 168 M_Mo_draws d 10 [some (.ref 105), some (.long x1), none, some (.int x3), none] [] S Q) : zW l Gr (zc n w) 168 M_Mo_draws d 4 [some (.ref 105), some (.long x1), none, some (.int x3), none] [] S Q := by
  refine z_go (Gr := Gr) (zc := zc n w) (K := 168) oV_Mo_draws 2 (pc' := 7) (L' := [some (.ref 105), some (.long x1), none, some (.int x3), none]) (st' := [.int 64, .int x3]) rfl ?_
  exact z_icgt (Gr := Gr) (tgt := 22) (oV_Mo_draws.1 (7, .if_icmp .gt 15) (ip_lk_mem rfl)) (by decide) (fun q => (z_forget (k0 q) trivial)) (fun q => (k1 q))
set_option maxRecDepth 100000 in
theorem b_Mo_draws_10 {l : Launch} {Gr : zG} {n w : Nat} {d : Nat} {S : zS} {Q : Option Value → zS → Prop} {x1 : Int64} {x3 : Int32}  (k0 : ((S.1 73 121) + x3) ≤ 2000 → zW l Gr (zc n w) 168 M_Mo_draws d 24 [some (.ref 105), some (.long x1), none, some (.int x3), none] [] S Q) (k1 : ¬ ((S.1 73 121) + x3) ≤ 2000 → zW l Gr (zc n w) 168 M_Mo_draws d 22 [none, none, none, none, none] [] S Q) : zW l Gr (zc n w) 168 M_Mo_draws d 10 [some (.ref 105), some (.long x1), none, some (.int x3), none] [] S Q := by
  refine z_go (Gr := Gr) (zc := zc n w) (K := 168) oV_Mo_draws 5 (pc' := 19) (L' := [some (.ref 105), some (.long x1), none, some (.int x3), none]) (st' := [.int 2000, .int ((S.1 73 121) + x3)]) rfl ?_
  exact z_icle (Gr := Gr) (tgt := 24) (oV_Mo_draws.1 (19, .if_icmp .le 5) (ip_lk_mem rfl)) (by decide) (fun q => (k0 q)) (fun q => (z_forget (k1 q) trivial))
set_option maxRecDepth 100000 in
theorem b_Mo_draws_24 {l : Launch} {Gr : zG} {n w : Nat} {d : Nat} {S : zS} {Q : Option Value → zS → Prop} {x1 : Int64} {x3 : Int32}  (k0 : zW l Gr (zc n w) 168 M_Mo_draws d 27 [some (.ref 105), some (.long x1), none, some (.int x3), some (.int 0)] [] S Q) : zW l Gr (zc n w) 168 M_Mo_draws d 24 [some (.ref 105), some (.long x1), none, some (.int x3), none] [] S Q := by
  refine z_go (Gr := Gr) (zc := zc n w) (K := 168) oV_Mo_draws 2 (pc' := 27) (L' := [some (.ref 105), some (.long x1), none, some (.int x3), some (.int 0)]) (st' := []) rfl ?_
  exact k0
set_option maxRecDepth 100000 in
theorem b_Mo_draws_27 {l : Launch} {Gr : zG} {n w : Nat} {d : Nat} {S : zS} {Q : Option Value → zS → Prop} {x1 : Int64} {x3 : Int32} {x4 : Int32}  (k0 : x3 ≤ x4 → zW l Gr (zc n w) 168 M_Mo_draws d 74 [some (.ref 105), none, none, none, none] [] S Q) (k1 : ¬ x3 ≤ x4 → zW l Gr (zc n w) 168 M_Mo_draws d 33 [some (.ref 105), some (.long x1), none, some (.int x3), some (.int x4)] [] S Q) : zW l Gr (zc n w) 168 M_Mo_draws d 27 [some (.ref 105), some (.long x1), none, some (.int x3), some (.int x4)] [] S Q := by
  refine z_go (Gr := Gr) (zc := zc n w) (K := 168) oV_Mo_draws 2 (pc' := 30) (L' := [some (.ref 105), some (.long x1), none, some (.int x3), some (.int x4)]) (st' := [.int x3, .int x4]) rfl ?_
  exact z_icge (Gr := Gr) (tgt := 74) (oV_Mo_draws.1 (30, .if_icmp .ge 44) (ip_lk_mem rfl)) (by decide) (fun q => (z_forget (k0 q) (And.intro rfl trivial))) (fun q => (k1 q))
set_option maxRecDepth 100000 in
theorem b_Mo_draws_74 {l : Launch} {Gr : zG} {n w : Nat} {d : Nat} {S : zS} {Q : Option Value → zS → Prop}   (k0 : Q (some (.int (S.1 73 121))) S) : zW l Gr (zc n w) 168 M_Mo_draws d 74 [some (.ref 105), none, none, none, none] [] S Q := by
  refine z_go (Gr := Gr) (zc := zc n w) (K := 168) oV_Mo_draws 2 (pc' := 78) (L' := [some (.ref 105), none, none, none, none]) (st' := [.int (S.1 73 121)]) rfl ?_
  exact z_ret (v := (some (.int (S.1 73 121)))) (oV_Mo_draws.1 (78, .ireturn) (ip_lk_mem rfl)) k0
set_option maxRecDepth 100000 in
theorem b_Mo_draws_33 {l : Launch} {Gr : zG} {n w : Nat} {d : Nat} {S : zS} {Q : Option Value → zS → Prop} {x1 : Int64} {x3 : Int32} {x4 : Int32} (g0 : vp_in (((S.1 73 122) + (S.1 73 121)) - ((S.1 73 122) + (S.1 73 121)) / 2000 * 2000) 2000) (k0 : zW l Gr (zc n w) 168 M_Mo_draws d 27 [some (.ref 105), some (.long x1), none, some (.int x3), some (.int (x4 + Int32.ofInt 1))] [] (zi (zi S 150 (((((S.1 73 122) + (S.1 73 121)) - ((S.1 73 122) + (S.1 73 121)) / 2000 * 2000) : Int32).toNatClampNeg) (((((x1 : Int64)).toUInt64 >>> (((x4 : Int32)).toInt64.toUInt64 &&& Int64.toUInt64 63)).toInt64 &&& 1)).toInt32) 73 121 ((S.1 73 121) + 1)) Q) : zW l Gr (zc n w) 168 M_Mo_draws d 33 [some (.ref 105), some (.long x1), none, some (.int x3), some (.int x4)] [] S Q := by
  refine z_go (Gr := Gr) (zc := zc n w) (K := 168) oV_Mo_draws 8 (pc' := 49) (L' := [some (.ref 105), some (.long x1), none, some (.int x3), some (.int x4)]) (st' := [.int 2000, .int ((S.1 73 122) + (S.1 73 121)), .ref 182]) rfl ?_
  refine z_irem (Gr := Gr) (oV_Mo_draws.1 (49, .irem) (ip_lk_mem rfl)) (by decide) ?_
  refine z_go (Gr := Gr) (zc := zc n w) (K := 168) oV_Mo_draws 6 (pc' := 57) (L' := [some (.ref 105), some (.long x1), none, some (.int x3), some (.int x4)]) (st' := [.int (((((x1 : Int64)).toUInt64 >>> (((x4 : Int32)).toInt64.toUInt64 &&& Int64.toUInt64 63)).toInt64 &&& 1)).toInt32, .int (((S.1 73 122) + (S.1 73 121)) - ((S.1 73 122) + (S.1 73 121)) / 2000 * 2000), .ref 182]) rfl ?_
  refine z_iast (Gr := Gr) (c := 150) (oV_Mo_draws.1 (57, .iastore) (ip_lk_mem rfl)) (by decide) (fun _ => rfl) g0 ?_
  refine z_go (Gr := Gr) (zc := zc n w) (K := 168) oV_Mo_draws 2 (pc' := 60) (L' := [some (.ref 105), some (.long x1), none, some (.int x3), some (.int x4)]) (st' := [.ref 105, .ref 105]) rfl ?_
  refine z_getI (Gr := Gr) (c := 73) (oV_Mo_draws.1 (60, .getfield 797) (ip_lk_mem rfl)) (oV_Mo_draws.2.1 (797, 12, 121, .int, false) (ip_lk_mem rfl)).1 (by decide) (zo_73 _ _ _ _) (zg_73_121 _ _ _ _) (zi_c (by decide)) ?_
  refine z_go (Gr := Gr) (zc := zc n w) (K := 168) oV_Mo_draws 2 (pc' := 65) (L' := [some (.ref 105), some (.long x1), none, some (.int x3), some (.int x4)]) (st' := [.int ((S.1 73 121) + 1), .ref 105]) rfl ?_
  refine z_putI (Gr := Gr) (c := 73) (oV_Mo_draws.1 (65, .putfield 797) (ip_lk_mem rfl)) (oV_Mo_draws.2.1 (797, 12, 121, .int, false) (ip_lk_mem rfl)).1 (by decide) (zo_73 _ _ _ _) (zs_73_121 _ _ _ _ _) (zn_73_121 _ _ _ _) rfl ?_
  refine z_go (Gr := Gr) (zc := zc n w) (K := 168) oV_Mo_draws 2 (pc' := 27) (L' := [some (.ref 105), some (.long x1), none, some (.int x3), some (.int (x4 + Int32.ofInt 1))]) (st' := []) rfl ?_
  exact k0
theorem e_Mo_draws {l : Launch} {Gr : zG} {n w : Nat} {d : Nat} {S : zS} {R : Int32 → zS → Prop} {x1 : Int64} {x3 : Int32} (k : zW l Gr (zc n w) 168 M_Mo_draws d 0 [some (.ref 105), some (.long x1), none, some (.int x3), none] [] S (fun v S' => ∃ x, v = some (.int x) ∧ R x S')) : zMi l Gr (zc n w) 168 M_Mo_draws d [.ref 105, .long x1, .int x3] S R := z_mi oM_Mo_draws rfl (Nat.le_of_ble_eq_true rfl) k
