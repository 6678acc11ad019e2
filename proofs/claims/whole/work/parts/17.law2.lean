theorem lw_gt {j L : Nat} (hj : j ≤ 200000) (hL : L ≤ 100000) : (nI L - (Int8.ofInt 6).toInt32 < nI j) ↔ L < j + 6 := by
  rw [Int32.lt_iff_toInt_lt, show (Int8.ofInt 6).toInt32 = nI 6 from rfl, pk_sub_toInt (by omega) (by omega), nI_toInt (by omega)]
  omega
set_option maxRecDepth 100000 in
theorem lw_exit {l : Launch} {Gr} {d a m j Lx : Nat} {xs : Nat → Int32} {h : ip_H} (hX : ∀ U : State, ip_X (lg_tbl, vwCl, Gr) U → va_X (ip_O (lg_tbl, vwCl, Gr) 0) Lx xs U U.heap) (hb : ip_O (lg_tbl, vwCl, Gr) 0 < ip_B (lg_tbl, vwCl, Gr)) (hL : Lx ≤ 100000) (hj : j ≤ 200000) (hx : Lx < j + 6) : ip_Rn l (lg_tbl, vwCl, Gr) M_La_law d 38 [some (.ref 0), some (.ref a), some (.ref m), some (.int (nI j))] [] h (some (.int 1), h) := by
  refine ip_go (G := (lg_tbl, vwCl, Gr)) (ini := false) oV_La_law (fun q => Bool.noConfusion q) 2 (pc' := 40) (L' := [some (.ref 0), some (.ref a), some (.ref m), some (.int (nI j))]) (st' := [.ref 0, .int (nI j)]) (h' := _) rfl ?_
  refine ip_slen (G := (lg_tbl, vwCl, Gr)) (oV_La_law.1 (40, .arraylength) (ip_lk_mem rfl)) hX hb ?_
  refine ip_go (G := (lg_tbl, vwCl, Gr)) (ini := false) oV_La_law (fun q => Bool.noConfusion q) 2 (pc' := 44) (L' := [some (.ref 0), some (.ref a), some (.ref m), some (.int (nI j))]) (st' := [.int (nI Lx - (Int8.ofInt 6).toInt32), .int (nI j)]) (h' := _) rfl ?_
  refine ip_icmp_gt_t (G := (lg_tbl, vwCl, Gr)) (tgt := 793) (oV_La_law.1 (44, .if_icmp .gt 749) (ip_lk_mem rfl)) (by decide) ((lw_gt hj hL).mpr hx) ?_
  refine ip_go (G := (lg_tbl, vwCl, Gr)) (ini := false) oV_La_law (fun q => Bool.noConfusion q) 1 (pc' := 794) (L' := [some (.ref 0), some (.ref a), some (.ref m), some (.int (nI j))]) (st' := [.int 1]) (h' := _) rfl ?_
  exact ip_ret (G := (lg_tbl, vwCl, Gr)) (v := some (.int 1)) (oV_La_law.1 (794, .ireturn) (ip_lk_mem rfl))
set_option maxRecDepth 100000 in
theorem lw_enter {l : Launch} {Gr} {d a m j Lx : Nat} {xs : Nat → Int32} {h : ip_H} {r : Option Value × ip_H} (hX : ∀ U : State, ip_X (lg_tbl, vwCl, Gr) U → va_X (ip_O (lg_tbl, vwCl, Gr) 0) Lx xs U U.heap) (hb : ip_O (lg_tbl, vwCl, Gr) 0 < ip_B (lg_tbl, vwCl, Gr)) (hL : Lx ≤ 100000) (hj : j + 6 ≤ Lx) (kk : ip_Rn l (lg_tbl, vwCl, Gr) M_La_law d 53 [some (.ref 0), some (.ref a), some (.ref m), some (.int (nI j))] [.int (xs j &&& 31)] h r) : ip_Rn l (lg_tbl, vwCl, Gr) M_La_law d 38 [some (.ref 0), some (.ref a), some (.ref m), some (.int (nI j))] [] h r := by
  refine ip_go (G := (lg_tbl, vwCl, Gr)) (ini := false) oV_La_law (fun q => Bool.noConfusion q) 2 (pc' := 40) (L' := [some (.ref 0), some (.ref a), some (.ref m), some (.int (nI j))]) (st' := [.ref 0, .int (nI j)]) (h' := _) rfl ?_
  refine ip_slen (G := (lg_tbl, vwCl, Gr)) (oV_La_law.1 (40, .arraylength) (ip_lk_mem rfl)) hX hb ?_
  refine ip_go (G := (lg_tbl, vwCl, Gr)) (ini := false) oV_La_law (fun q => Bool.noConfusion q) 2 (pc' := 44) (L' := [some (.ref 0), some (.ref a), some (.ref m), some (.int (nI j))]) (st' := [.int (nI Lx - (Int8.ofInt 6).toInt32), .int (nI j)]) (h' := _) rfl ?_
  refine ip_icmp_gt_f (G := (lg_tbl, vwCl, Gr)) (tgt := 793) (oV_La_law.1 (44, .if_icmp .gt 749) (ip_lk_mem rfl)) (by decide) (fun q => by have := (lw_gt (by omega) hL).mp q; omega) ?_
  refine ip_go (G := (lg_tbl, vwCl, Gr)) (ini := false) oV_La_law (fun q => Bool.noConfusion q) 2 (pc' := 49) (L' := [some (.ref 0), some (.ref a), some (.ref m), some (.int (nI j))]) (st' := [.int (nI j), .ref 0]) (h' := _) rfl ?_
  refine ip_sld (G := (lg_tbl, vwCl, Gr)) (q := j) (oV_La_law.1 (49, .iaload) (ip_lk_mem rfl)) hX hb rfl (by omega) (by omega) ?_
  refine ip_go (G := (lg_tbl, vwCl, Gr)) (ini := false) oV_La_law (fun q => Bool.noConfusion q) 2 (pc' := 53) (L' := [some (.ref 0), some (.ref a), some (.ref m), some (.int (nI j))]) (st' := [.int (xs j &&& 31)]) (h' := _) rfl ?_
  exact kk
set_option maxRecDepth 100000 in
theorem lw_sw0 {l : Launch} {Gr} {d a m j : Nat} {x : Int32} {h : ip_H} {r : Option Value × ip_H} (e : x = 0) (kk : ip_Rn l (lg_tbl, vwCl, Gr) M_La_law d 148 [some (.ref 0), some (.ref a), some (.ref m), some (.int (nI j))] [] h r) : ip_Rn l (lg_tbl, vwCl, Gr) M_La_law d 53 [some (.ref 0), some (.ref a), some (.ref m), some (.int (nI j))] [.int x] h r := by
  subst e
  exact ip_tabI (G := (lg_tbl, vwCl, Gr)) (tgt := 148) (oV_La_law.1 (53, .tableswitch 734 0 19 #[95, 156, 179, 192, 215, 248, 281, 315, 348, 369, 432, 445, 478, 501, 534, 567, 610, 643, 676, 710]) (ip_lk_mem rfl)) (by decide) (by decide) (off := 95) rfl (by decide) kk
set_option maxRecDepth 100000 in
theorem lw_sw1 {l : Launch} {Gr} {d a m j : Nat} {x : Int32} {h : ip_H} {r : Option Value × ip_H} (e : x = 1) (kk : ip_Rn l (lg_tbl, vwCl, Gr) M_La_law d 209 [some (.ref 0), some (.ref a), some (.ref m), some (.int (nI j))] [] h r) : ip_Rn l (lg_tbl, vwCl, Gr) M_La_law d 53 [some (.ref 0), some (.ref a), some (.ref m), some (.int (nI j))] [.int x] h r := by
  subst e
  exact ip_tabI (G := (lg_tbl, vwCl, Gr)) (tgt := 209) (oV_La_law.1 (53, .tableswitch 734 0 19 #[95, 156, 179, 192, 215, 248, 281, 315, 348, 369, 432, 445, 478, 501, 534, 567, 610, 643, 676, 710]) (ip_lk_mem rfl)) (by decide) (by decide) (off := 156) rfl (by decide) kk
set_option maxRecDepth 100000 in
theorem lw_sw2 {l : Launch} {Gr} {d a m j : Nat} {x : Int32} {h : ip_H} {r : Option Value × ip_H} (e : x = 2) (kk : ip_Rn l (lg_tbl, vwCl, Gr) M_La_law d 232 [some (.ref 0), some (.ref a), some (.ref m), some (.int (nI j))] [] h r) : ip_Rn l (lg_tbl, vwCl, Gr) M_La_law d 53 [some (.ref 0), some (.ref a), some (.ref m), some (.int (nI j))] [.int x] h r := by
  subst e
  exact ip_tabI (G := (lg_tbl, vwCl, Gr)) (tgt := 232) (oV_La_law.1 (53, .tableswitch 734 0 19 #[95, 156, 179, 192, 215, 248, 281, 315, 348, 369, 432, 445, 478, 501, 534, 567, 610, 643, 676, 710]) (ip_lk_mem rfl)) (by decide) (by decide) (off := 179) rfl (by decide) kk
set_option maxRecDepth 100000 in
theorem lw_sw3 {l : Launch} {Gr} {d a m j : Nat} {x : Int32} {h : ip_H} {r : Option Value × ip_H} (e : x = 3) (kk : ip_Rn l (lg_tbl, vwCl, Gr) M_La_law d 245 [some (.ref 0), some (.ref a), some (.ref m), some (.int (nI j))] [] h r) : ip_Rn l (lg_tbl, vwCl, Gr) M_La_law d 53 [some (.ref 0), some (.ref a), some (.ref m), some (.int (nI j))] [.int x] h r := by
  subst e
  exact ip_tabI (G := (lg_tbl, vwCl, Gr)) (tgt := 245) (oV_La_law.1 (53, .tableswitch 734 0 19 #[95, 156, 179, 192, 215, 248, 281, 315, 348, 369, 432, 445, 478, 501, 534, 567, 610, 643, 676, 710]) (ip_lk_mem rfl)) (by decide) (by decide) (off := 192) rfl (by decide) kk
set_option maxRecDepth 100000 in
theorem lw_sw4 {l : Launch} {Gr} {d a m j : Nat} {x : Int32} {h : ip_H} {r : Option Value × ip_H} (e : x = 4) (kk : ip_Rn l (lg_tbl, vwCl, Gr) M_La_law d 268 [some (.ref 0), some (.ref a), some (.ref m), some (.int (nI j))] [] h r) : ip_Rn l (lg_tbl, vwCl, Gr) M_La_law d 53 [some (.ref 0), some (.ref a), some (.ref m), some (.int (nI j))] [.int x] h r := by
  subst e
  exact ip_tabI (G := (lg_tbl, vwCl, Gr)) (tgt := 268) (oV_La_law.1 (53, .tableswitch 734 0 19 #[95, 156, 179, 192, 215, 248, 281, 315, 348, 369, 432, 445, 478, 501, 534, 567, 610, 643, 676, 710]) (ip_lk_mem rfl)) (by decide) (by decide) (off := 215) rfl (by decide) kk
set_option maxRecDepth 100000 in
theorem lw_sw5 {l : Launch} {Gr} {d a m j : Nat} {x : Int32} {h : ip_H} {r : Option Value × ip_H} (e : x = 5) (kk : ip_Rn l (lg_tbl, vwCl, Gr) M_La_law d 301 [some (.ref 0), some (.ref a), some (.ref m), some (.int (nI j))] [] h r) : ip_Rn l (lg_tbl, vwCl, Gr) M_La_law d 53 [some (.ref 0), some (.ref a), some (.ref m), some (.int (nI j))] [.int x] h r := by
  subst e
  exact ip_tabI (G := (lg_tbl, vwCl, Gr)) (tgt := 301) (oV_La_law.1 (53, .tableswitch 734 0 19 #[95, 156, 179, 192, 215, 248, 281, 315, 348, 369, 432, 445, 478, 501, 534, 567, 610, 643, 676, 710]) (ip_lk_mem rfl)) (by decide) (by decide) (off := 248) rfl (by decide) kk
set_option maxRecDepth 100000 in
theorem lw_sw6 {l : Launch} {Gr} {d a m j : Nat} {x : Int32} {h : ip_H} {r : Option Value × ip_H} (e : x = 6) (kk : ip_Rn l (lg_tbl, vwCl, Gr) M_La_law d 334 [some (.ref 0), some (.ref a), some (.ref m), some (.int (nI j))] [] h r) : ip_Rn l (lg_tbl, vwCl, Gr) M_La_law d 53 [some (.ref 0), some (.ref a), some (.ref m), some (.int (nI j))] [.int x] h r := by
  subst e
  exact ip_tabI (G := (lg_tbl, vwCl, Gr)) (tgt := 334) (oV_La_law.1 (53, .tableswitch 734 0 19 #[95, 156, 179, 192, 215, 248, 281, 315, 348, 369, 432, 445, 478, 501, 534, 567, 610, 643, 676, 710]) (ip_lk_mem rfl)) (by decide) (by decide) (off := 281) rfl (by decide) kk
set_option maxRecDepth 100000 in
theorem lw_sw7 {l : Launch} {Gr} {d a m j : Nat} {x : Int32} {h : ip_H} {r : Option Value × ip_H} (e : x = 7) (kk : ip_Rn l (lg_tbl, vwCl, Gr) M_La_law d 368 [some (.ref 0), some (.ref a), some (.ref m), some (.int (nI j))] [] h r) : ip_Rn l (lg_tbl, vwCl, Gr) M_La_law d 53 [some (.ref 0), some (.ref a), some (.ref m), some (.int (nI j))] [.int x] h r := by
  subst e
  exact ip_tabI (G := (lg_tbl, vwCl, Gr)) (tgt := 368) (oV_La_law.1 (53, .tableswitch 734 0 19 #[95, 156, 179, 192, 215, 248, 281, 315, 348, 369, 432, 445, 478, 501, 534, 567, 610, 643, 676, 710]) (ip_lk_mem rfl)) (by decide) (by decide) (off := 315) rfl (by decide) kk
set_option maxRecDepth 100000 in
theorem lw_sw8 {l : Launch} {Gr} {d a m j : Nat} {x : Int32} {h : ip_H} {r : Option Value × ip_H} (e : x = 8) (kk : ip_Rn l (lg_tbl, vwCl, Gr) M_La_law d 401 [some (.ref 0), some (.ref a), some (.ref m), some (.int (nI j))] [] h r) : ip_Rn l (lg_tbl, vwCl, Gr) M_La_law d 53 [some (.ref 0), some (.ref a), some (.ref m), some (.int (nI j))] [.int x] h r := by
  subst e
  exact ip_tabI (G := (lg_tbl, vwCl, Gr)) (tgt := 401) (oV_La_law.1 (53, .tableswitch 734 0 19 #[95, 156, 179, 192, 215, 248, 281, 315, 348, 369, 432, 445, 478, 501, 534, 567, 610, 643, 676, 710]) (ip_lk_mem rfl)) (by decide) (by decide) (off := 348) rfl (by decide) kk
set_option maxRecDepth 100000 in
theorem lw_sw9 {l : Launch} {Gr} {d a m j : Nat} {x : Int32} {h : ip_H} {r : Option Value × ip_H} (e : x = 9) (kk : ip_Rn l (lg_tbl, vwCl, Gr) M_La_law d 422 [some (.ref 0), some (.ref a), some (.ref m), some (.int (nI j))] [] h r) : ip_Rn l (lg_tbl, vwCl, Gr) M_La_law d 53 [some (.ref 0), some (.ref a), some (.ref m), some (.int (nI j))] [.int x] h r := by
  subst e
  exact ip_tabI (G := (lg_tbl, vwCl, Gr)) (tgt := 422) (oV_La_law.1 (53, .tableswitch 734 0 19 #[95, 156, 179, 192, 215, 248, 281, 315, 348, 369, 432, 445, 478, 501, 534, 567, 610, 643, 676, 710]) (ip_lk_mem rfl)) (by decide) (by decide) (off := 369) rfl (by decide) kk
set_option maxRecDepth 100000 in
theorem lw_sw10 {l : Launch} {Gr} {d a m j : Nat} {x : Int32} {h : ip_H} {r : Option Value × ip_H} (e : x = 10) (kk : ip_Rn l (lg_tbl, vwCl, Gr) M_La_law d 485 [some (.ref 0), some (.ref a), some (.ref m), some (.int (nI j))] [] h r) : ip_Rn l (lg_tbl, vwCl, Gr) M_La_law d 53 [some (.ref 0), some (.ref a), some (.ref m), some (.int (nI j))] [.int x] h r := by
  subst e
  exact ip_tabI (G := (lg_tbl, vwCl, Gr)) (tgt := 485) (oV_La_law.1 (53, .tableswitch 734 0 19 #[95, 156, 179, 192, 215, 248, 281, 315, 348, 369, 432, 445, 478, 501, 534, 567, 610, 643, 676, 710]) (ip_lk_mem rfl)) (by decide) (by decide) (off := 432) rfl (by decide) kk
set_option maxRecDepth 100000 in
theorem lw_sw11 {l : Launch} {Gr} {d a m j : Nat} {x : Int32} {h : ip_H} {r : Option Value × ip_H} (e : x = 11) (kk : ip_Rn l (lg_tbl, vwCl, Gr) M_La_law d 498 [some (.ref 0), some (.ref a), some (.ref m), some (.int (nI j))] [] h r) : ip_Rn l (lg_tbl, vwCl, Gr) M_La_law d 53 [some (.ref 0), some (.ref a), some (.ref m), some (.int (nI j))] [.int x] h r := by
  subst e
  exact ip_tabI (G := (lg_tbl, vwCl, Gr)) (tgt := 498) (oV_La_law.1 (53, .tableswitch 734 0 19 #[95, 156, 179, 192, 215, 248, 281, 315, 348, 369, 432, 445, 478, 501, 534, 567, 610, 643, 676, 710]) (ip_lk_mem rfl)) (by decide) (by decide) (off := 445) rfl (by decide) kk
set_option maxRecDepth 100000 in
theorem lw_sw12 {l : Launch} {Gr} {d a m j : Nat} {x : Int32} {h : ip_H} {r : Option Value × ip_H} (e : x = 12) (kk : ip_Rn l (lg_tbl, vwCl, Gr) M_La_law d 531 [some (.ref 0), some (.ref a), some (.ref m), some (.int (nI j))] [] h r) : ip_Rn l (lg_tbl, vwCl, Gr) M_La_law d 53 [some (.ref 0), some (.ref a), some (.ref m), some (.int (nI j))] [.int x] h r := by
  subst e
  exact ip_tabI (G := (lg_tbl, vwCl, Gr)) (tgt := 531) (oV_La_law.1 (53, .tableswitch 734 0 19 #[95, 156, 179, 192, 215, 248, 281, 315, 348, 369, 432, 445, 478, 501, 534, 567, 610, 643, 676, 710]) (ip_lk_mem rfl)) (by decide) (by decide) (off := 478) rfl (by decide) kk
set_option maxRecDepth 100000 in
theorem lw_sw13 {l : Launch} {Gr} {d a m j : Nat} {x : Int32} {h : ip_H} {r : Option Value × ip_H} (e : x = 13) (kk : ip_Rn l (lg_tbl, vwCl, Gr) M_La_law d 554 [some (.ref 0), some (.ref a), some (.ref m), some (.int (nI j))] [] h r) : ip_Rn l (lg_tbl, vwCl, Gr) M_La_law d 53 [some (.ref 0), some (.ref a), some (.ref m), some (.int (nI j))] [.int x] h r := by
  subst e
  exact ip_tabI (G := (lg_tbl, vwCl, Gr)) (tgt := 554) (oV_La_law.1 (53, .tableswitch 734 0 19 #[95, 156, 179, 192, 215, 248, 281, 315, 348, 369, 432, 445, 478, 501, 534, 567, 610, 643, 676, 710]) (ip_lk_mem rfl)) (by decide) (by decide) (off := 501) rfl (by decide) kk
set_option maxRecDepth 100000 in
theorem lw_sw14 {l : Launch} {Gr} {d a m j : Nat} {x : Int32} {h : ip_H} {r : Option Value × ip_H} (e : x = 14) (kk : ip_Rn l (lg_tbl, vwCl, Gr) M_La_law d 587 [some (.ref 0), some (.ref a), some (.ref m), some (.int (nI j))] [] h r) : ip_Rn l (lg_tbl, vwCl, Gr) M_La_law d 53 [some (.ref 0), some (.ref a), some (.ref m), some (.int (nI j))] [.int x] h r := by
  subst e
  exact ip_tabI (G := (lg_tbl, vwCl, Gr)) (tgt := 587) (oV_La_law.1 (53, .tableswitch 734 0 19 #[95, 156, 179, 192, 215, 248, 281, 315, 348, 369, 432, 445, 478, 501, 534, 567, 610, 643, 676, 710]) (ip_lk_mem rfl)) (by decide) (by decide) (off := 534) rfl (by decide) kk
set_option maxRecDepth 100000 in
theorem lw_sw15 {l : Launch} {Gr} {d a m j : Nat} {x : Int32} {h : ip_H} {r : Option Value × ip_H} (e : x = 15) (kk : ip_Rn l (lg_tbl, vwCl, Gr) M_La_law d 620 [some (.ref 0), some (.ref a), some (.ref m), some (.int (nI j))] [] h r) : ip_Rn l (lg_tbl, vwCl, Gr) M_La_law d 53 [some (.ref 0), some (.ref a), some (.ref m), some (.int (nI j))] [.int x] h r := by
  subst e
  exact ip_tabI (G := (lg_tbl, vwCl, Gr)) (tgt := 620) (oV_La_law.1 (53, .tableswitch 734 0 19 #[95, 156, 179, 192, 215, 248, 281, 315, 348, 369, 432, 445, 478, 501, 534, 567, 610, 643, 676, 710]) (ip_lk_mem rfl)) (by decide) (by decide) (off := 567) rfl (by decide) kk
set_option maxRecDepth 100000 in
theorem lw_sw16 {l : Launch} {Gr} {d a m j : Nat} {x : Int32} {h : ip_H} {r : Option Value × ip_H} (e : x = 16) (kk : ip_Rn l (lg_tbl, vwCl, Gr) M_La_law d 663 [some (.ref 0), some (.ref a), some (.ref m), some (.int (nI j))] [] h r) : ip_Rn l (lg_tbl, vwCl, Gr) M_La_law d 53 [some (.ref 0), some (.ref a), some (.ref m), some (.int (nI j))] [.int x] h r := by
  subst e
  exact ip_tabI (G := (lg_tbl, vwCl, Gr)) (tgt := 663) (oV_La_law.1 (53, .tableswitch 734 0 19 #[95, 156, 179, 192, 215, 248, 281, 315, 348, 369, 432, 445, 478, 501, 534, 567, 610, 643, 676, 710]) (ip_lk_mem rfl)) (by decide) (by decide) (off := 610) rfl (by decide) kk
set_option maxRecDepth 100000 in
theorem lw_sw17 {l : Launch} {Gr} {d a m j : Nat} {x : Int32} {h : ip_H} {r : Option Value × ip_H} (e : x = 17) (kk : ip_Rn l (lg_tbl, vwCl, Gr) M_La_law d 696 [some (.ref 0), some (.ref a), some (.ref m), some (.int (nI j))] [] h r) : ip_Rn l (lg_tbl, vwCl, Gr) M_La_law d 53 [some (.ref 0), some (.ref a), some (.ref m), some (.int (nI j))] [.int x] h r := by
  subst e
  exact ip_tabI (G := (lg_tbl, vwCl, Gr)) (tgt := 696) (oV_La_law.1 (53, .tableswitch 734 0 19 #[95, 156, 179, 192, 215, 248, 281, 315, 348, 369, 432, 445, 478, 501, 534, 567, 610, 643, 676, 710]) (ip_lk_mem rfl)) (by decide) (by decide) (off := 643) rfl (by decide) kk
set_option maxRecDepth 100000 in
theorem lw_sw18 {l : Launch} {Gr} {d a m j : Nat} {x : Int32} {h : ip_H} {r : Option Value × ip_H} (e : x = 18) (kk : ip_Rn l (lg_tbl, vwCl, Gr) M_La_law d 729 [some (.ref 0), some (.ref a), some (.ref m), some (.int (nI j))] [] h r) : ip_Rn l (lg_tbl, vwCl, Gr) M_La_law d 53 [some (.ref 0), some (.ref a), some (.ref m), some (.int (nI j))] [.int x] h r := by
  subst e
  exact ip_tabI (G := (lg_tbl, vwCl, Gr)) (tgt := 729) (oV_La_law.1 (53, .tableswitch 734 0 19 #[95, 156, 179, 192, 215, 248, 281, 315, 348, 369, 432, 445, 478, 501, 534, 567, 610, 643, 676, 710]) (ip_lk_mem rfl)) (by decide) (by decide) (off := 676) rfl (by decide) kk
set_option maxRecDepth 100000 in
theorem lw_sw19 {l : Launch} {Gr} {d a m j : Nat} {x : Int32} {h : ip_H} {r : Option Value × ip_H} (e : x = 19) (kk : ip_Rn l (lg_tbl, vwCl, Gr) M_La_law d 763 [some (.ref 0), some (.ref a), some (.ref m), some (.int (nI j))] [] h r) : ip_Rn l (lg_tbl, vwCl, Gr) M_La_law d 53 [some (.ref 0), some (.ref a), some (.ref m), some (.int (nI j))] [.int x] h r := by
  subst e
  exact ip_tabI (G := (lg_tbl, vwCl, Gr)) (tgt := 763) (oV_La_law.1 (53, .tableswitch 734 0 19 #[95, 156, 179, 192, 215, 248, 281, 315, 348, 369, 432, 445, 478, 501, 534, 567, 610, 643, 676, 710]) (ip_lk_mem rfl)) (by decide) (by decide) (off := 710) rfl (by decide) kk
set_option maxRecDepth 100000 in
theorem lw_swd {l : Launch} {Gr} {d a m j : Nat} {x : Int32} {h : ip_H} {r : Option Value × ip_H} (e : 19 < x.toInt) (kk : ip_Rn l (lg_tbl, vwCl, Gr) M_La_law d 787 [some (.ref 0), some (.ref a), some (.ref m), some (.int (nI j))] [] h r) : ip_Rn l (lg_tbl, vwCl, Gr) M_La_law d 53 [some (.ref 0), some (.ref a), some (.ref m), some (.int (nI j))] [.int x] h r :=
  ip_tabO (G := (lg_tbl, vwCl, Gr)) (tgt := 787) (oV_La_law.1 (53, .tableswitch 734 0 19 #[95, 156, 179, 192, 215, 248, 281, 315, 348, 369, 432, 445, 478, 501, 534, 567, 610, 643, 676, 710]) (ip_lk_mem rfl)) (Or.inr e) (by decide) kk
set_option maxRecDepth 100000 in
theorem lw_next {l : Launch} {Gr} {d a m j : Nat} {h : ip_H} {r : Option Value × ip_H} (kk : ip_Rn l (lg_tbl, vwCl, Gr) M_La_law d 38 [some (.ref 0), some (.ref a), some (.ref m), some (.int (nI (j + 6)))] [] h r) : ip_Rn l (lg_tbl, vwCl, Gr) M_La_law d 787 [some (.ref 0), some (.ref a), some (.ref m), some (.int (nI j))] [] h r := by
  refine ip_go (G := (lg_tbl, vwCl, Gr)) (ini := false) oV_La_law (fun q => Bool.noConfusion q) 2 (pc' := 38) (L' := [some (.ref 0), some (.ref a), some (.ref m), some (.int (nI j + Int32.ofInt 6))]) (st' := []) (h' := _) rfl ?_
  rw [show nI j + Int32.ofInt 6 = nI (j + 6) from nI_add j 6]
  exact kk
theorem lw_op (x : Int32) : ∃ k : Nat, k < 32 ∧ x &&& 31 = nI k := pk_andE x 5 (by decide)
set_option maxRecDepth 100000 in
theorem c_cell {l : Launch} {Gr} {k Lx : Nat} {xs : Nat → Int32} {h : ip_H} (d : Nat) (hX : ∀ U : State, ip_X (lg_tbl, vwCl, Gr) U → va_X (ip_O (lg_tbl, vwCl, Gr) 0) Lx xs U U.heap) (hb : ip_O (lg_tbl, vwCl, Gr) 0 < ip_B (lg_tbl, vwCl, Gr)) (hL : Lx ≤ 100000) (hk : k ≤ 10) : ip_RnM l (lg_tbl, vwCl, Gr) M_La_cell d [.ref 0, .int (nI k)] h (some (.int (if k < Lx then xs k else 0)), h) := by
  refine ip_ofRn (G := (lg_tbl, vwCl, Gr)) oM_La_cell (⟨rfl, by decide⟩) (Nat.le_of_ble_eq_true rfl) ?_
  show ip_Rn l _ _ d 0 [some (.ref 0), some (.int (nI k))] [] _ _
  refine ip_go (G := (lg_tbl, vwCl, Gr)) (ini := false) oV_La_cell (fun q => Bool.noConfusion q) 2 (pc' := 2) (L' := [some (.ref 0), some (.int (nI k))]) (st' := [.ref 0, .int (nI k)]) (h' := _) rfl ?_
  refine ip_slen (G := (lg_tbl, vwCl, Gr)) (oV_La_cell.1 (2, .arraylength) (ip_lk_mem rfl)) hX hb ?_
  by_cases q : k < Lx
  · rw [if_pos q]
    refine ip_icmp_ge_f (G := (lg_tbl, vwCl, Gr)) (tgt := 12) (oV_La_cell.1 (3, .if_icmp .ge 9) (ip_lk_mem rfl)) (by decide) (nI_ge q (by omega)) ?_
    refine ip_go (G := (lg_tbl, vwCl, Gr)) (ini := false) oV_La_cell (fun q => Bool.noConfusion q) 2 (pc' := 8) (L' := [some (.ref 0), some (.int (nI k))]) (st' := [.int (nI k), .ref 0]) (h' := _) rfl ?_
    refine ip_sld (G := (lg_tbl, vwCl, Gr)) (q := k) (oV_La_cell.1 (8, .iaload) (ip_lk_mem rfl)) hX hb rfl q (by omega) ?_
    refine ip_go (G := (lg_tbl, vwCl, Gr)) (ini := false) oV_La_cell (fun q => Bool.noConfusion q) 1 (pc' := 13) (L' := [some (.ref 0), some (.int (nI k))]) (st' := [.int (xs k)]) (h' := _) rfl ?_
    exact ip_ret (G := (lg_tbl, vwCl, Gr)) (v := some (.int (xs k))) (oV_La_cell.1 (13, .ireturn) (ip_lk_mem rfl))
  · rw [if_neg q]
    refine ip_icmp_ge_t (G := (lg_tbl, vwCl, Gr)) (tgt := 12) (oV_La_cell.1 (3, .if_icmp .ge 9) (ip_lk_mem rfl)) (by decide) (nI_le (by omega) (by omega)) ?_
    refine ip_go (G := (lg_tbl, vwCl, Gr)) (ini := false) oV_La_cell (fun q => Bool.noConfusion q) 1 (pc' := 13) (L' := [some (.ref 0), some (.int (nI k))]) (st' := [.int 0]) (h' := _) rfl ?_
    exact ip_ret (G := (lg_tbl, vwCl, Gr)) (v := some (.int 0)) (oV_La_cell.1 (13, .ireturn) (ip_lk_mem rfl))
