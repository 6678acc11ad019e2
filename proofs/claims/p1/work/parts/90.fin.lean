set_option maxRecDepth 100000 in
theorem z_t (n w : Nat) (S : zS) : (zP (zc n w) 168 S).map ip_z = [17, 20, 4000, 7, 4000, 4000, 4000, 4000, 13, 800, 800, 800, 800, 800, 800, 800, 800, 8, 256, 256, 256, 256, 256, n, 15, 40000, 40000, 40000, 40000, 40000, 2003, 445, (444 * w), (256 * w + 40000), 11, 310, 310, 310, 5, 11, 372, 31, 31, 31, 31, 19, 285, 285, 800, 800, 7, w, w, w, (w + 1), w, w, (9682 * w), (256 * w), 9, 2000, 40000, 40000, 40000, (256 * w + 40000), 15, n, n, n, n, n, (2 * n * (n - 1)), (n * ((n - 1) * 2002)), 146, 20, 4000, 2000, 2000, 12000, 12000, 12000, 12000, 12000, 4100, 4100, 4100, 4100, 70, 70, 12000, 2500, 2500, 2500, 2500, 2500, 2500, 2500, 2500, 4200, 4200, 4200, 70, 12000, 12000, 12000, 12000, 12000, 12000, 400, 400, 1000, 40000, 40000, 40000, 40000, 256, 256, 256, 256, 256, 500, 16000, 134400, 40, 40, 40, 40, 40, 40, 40, 40, 80, 8192, 300, 300, 300, 40, 40, 40, 327680, 327680, 12000, 12000, 12000, 400, 400, 40, 4200, 256, 500, 2000, 48192, 40000, 40000, 40000, 2003, 40000, 16, 16, 16, 16, 16, 481000, 481000, 1000, 1000, 1000, 16] := rfl
def zle : List Nat → List Nat → Prop
  | [], [] => True
  | a :: l, b :: m => a ≤ b ∧ zle l m
  | _, _ => False
theorem zle_sum : ∀ {l m : List Nat}, zle l m → l.sum ≤ m.sum
  | [], [], _ => Nat.le_refl _
  | a :: l, b :: m, h => by
    rw [List.sum_cons, List.sum_cons]
    exact Nat.add_le_add h.1 (zle_sum h.2)
  | [], b :: m, h => h.elim
  | a :: l, [], h => h.elim
def z_top : List Nat := [17, 20, 4000, 7, 4000, 4000, 4000, 4000, 13, 800, 800, 800, 800, 800, 800, 800, 800, 8, 256, 256, 256, 256, 256, 16, 15, 40000, 40000, 40000, 40000, 40000, 2003, 445, (444 * 32), (256 * 32 + 40000), 11, 310, 310, 310, 5, 11, 372, 31, 31, 31, 31, 19, 285, 285, 800, 800, 7, 32, 32, 32, (32 + 1), 32, 32, (9682 * 32), (256 * 32), 9, 2000, 40000, 40000, 40000, (256 * 32 + 40000), 15, 16, 16, 16, 16, 16, (2 * 16 * (16 - 1)), (16 * ((16 - 1) * 2002)), 146, 20, 4000, 2000, 2000, 12000, 12000, 12000, 12000, 12000, 4100, 4100, 4100, 4100, 70, 70, 12000, 2500, 2500, 2500, 2500, 2500, 2500, 2500, 2500, 4200, 4200, 4200, 70, 12000, 12000, 12000, 12000, 12000, 12000, 400, 400, 1000, 40000, 40000, 40000, 40000, 256, 256, 256, 256, 256, 500, 16000, 134400, 40, 40, 40, 40, 40, 40, 40, 40, 80, 8192, 300, 300, 300, 40, 40, 40, 327680, 327680, 12000, 12000, 12000, 400, 400, 40, 4200, 256, 500, 2000, 48192, 40000, 40000, 40000, 2003, 40000, 16, 16, 16, 16, 16, 481000, 481000, 1000, 1000, 1000, 16]
set_option maxRecDepth 100000 in
theorem z_room {n w : Nat} (hn : 2 ≤ n ∧ n ≤ 16) (hw : 1 ≤ w ∧ w ≤ 32) (S : zS) : ip_t (zP (zc n w) 168 S) ≤ 7699206 := by
  unfold ip_t
  rw [z_t]
  have h1 : 2 * n * (n - 1) ≤ 2 * 16 * (16 - 1) := Nat.mul_le_mul (by omega) (by omega)
  have h2 : n * ((n - 1) * 2002) ≤ 16 * ((16 - 1) * 2002) := Nat.mul_le_mul (by omega) (Nat.mul_le_mul (by omega) (by omega))
  refine Nat.le_trans (zle_sum (m := z_top) (And.intro (Nat.le_refl _) (And.intro (Nat.le_refl _) (And.intro (Nat.le_refl _) (And.intro (Nat.le_refl _) (And.intro (Nat.le_refl _) (And.intro (Nat.le_refl _) (And.intro (Nat.le_refl _) (And.intro (Nat.le_refl _) (And.intro (Nat.le_refl _) (And.intro (Nat.le_refl _) (And.intro (Nat.le_refl _) (And.intro (Nat.le_refl _) (And.intro (Nat.le_refl _) (And.intro (Nat.le_refl _) (And.intro (Nat.le_refl _) (And.intro (Nat.le_refl _) (And.intro (Nat.le_refl _) (And.intro (Nat.le_refl _) (And.intro (Nat.le_refl _) (And.intro (Nat.le_refl _) (And.intro (Nat.le_refl _) (And.intro (Nat.le_refl _) (And.intro (Nat.le_refl _) (And.intro (by omega) (And.intro (Nat.le_refl _) (And.intro (Nat.le_refl _) (And.intro (Nat.le_refl _) (And.intro (Nat.le_refl _) (And.intro (Nat.le_refl _) (And.intro (Nat.le_refl _) (And.intro (Nat.le_refl _) (And.intro (Nat.le_refl _) (And.intro (by omega) (And.intro (by omega) (And.intro (Nat.le_refl _) (And.intro (Nat.le_refl _) (And.intro (Nat.le_refl _) (And.intro (Nat.le_refl _) (And.intro (Nat.le_refl _) (And.intro (Nat.le_refl _) (And.intro (Nat.le_refl _) (And.intro (Nat.le_refl _) (And.intro (Nat.le_refl _) (And.intro (Nat.le_refl _) (And.intro (Nat.le_refl _) (And.intro (Nat.le_refl _) (And.intro (Nat.le_refl _) (And.intro (Nat.le_refl _) (And.intro (Nat.le_refl _) (And.intro (Nat.le_refl _) (And.intro (Nat.le_refl _) (And.intro (by omega) (And.intro (by omega) (And.intro (by omega) (And.intro (by omega) (And.intro (by omega) (And.intro (by omega) (And.intro (by omega) (And.intro (by omega) (And.intro (Nat.le_refl _) (And.intro (Nat.le_refl _) (And.intro (Nat.le_refl _) (And.intro (Nat.le_refl _) (And.intro (Nat.le_refl _) (And.intro (by omega) (And.intro (Nat.le_refl _) (And.intro (by omega) (And.intro (by omega) (And.intro (by omega) (And.intro (by omega) (And.intro (by omega) (And.intro h1 (And.intro h2 (And.intro (Nat.le_refl _) (And.intro (Nat.le_refl _) (And.intro (Nat.le_refl _) (And.intro (Nat.le_refl _) (And.intro (Nat.le_refl _) (And.intro (Nat.le_refl _) (And.intro (Nat.le_refl _) (And.intro (Nat.le_refl _) (And.intro (Nat.le_refl _) (And.intro (Nat.le_refl _) (And.intro (Nat.le_refl _) (And.intro (Nat.le_refl _) (And.intro (Nat.le_refl _) (And.intro (Nat.le_refl _) (And.intro (Nat.le_refl _) (And.intro (Nat.le_refl _) (And.intro (Nat.le_refl _) (And.intro (Nat.le_refl _) (And.intro (Nat.le_refl _) (And.intro (Nat.le_refl _) (And.intro (Nat.le_refl _) (And.intro (Nat.le_refl _) (And.intro (Nat.le_refl _) (And.intro (Nat.le_refl _) (And.intro (Nat.le_refl _) (And.intro (Nat.le_refl _) (And.intro (Nat.le_refl _) (And.intro (Nat.le_refl _) (And.intro (Nat.le_refl _) (And.intro (Nat.le_refl _) (And.intro (Nat.le_refl _) (And.intro (Nat.le_refl _) (And.intro (Nat.le_refl _) (And.intro (Nat.le_refl _) (And.intro (Nat.le_refl _) (And.intro (Nat.le_refl _) (And.intro (Nat.le_refl _) (And.intro (Nat.le_refl _) (And.intro (Nat.le_refl _) (And.intro (Nat.le_refl _) (And.intro (Nat.le_refl _) (And.intro (Nat.le_refl _) (And.intro (Nat.le_refl _) (And.intro (Nat.le_refl _) (And.intro (Nat.le_refl _) (And.intro (Nat.le_refl _) (And.intro (Nat.le_refl _) (And.intro (Nat.le_refl _) (And.intro (Nat.le_refl _) (And.intro (Nat.le_refl _) (And.intro (Nat.le_refl _) (And.intro (Nat.le_refl _) (And.intro (Nat.le_refl _) (And.intro (Nat.le_refl _) (And.intro (Nat.le_refl _) (And.intro (Nat.le_refl _) (And.intro (Nat.le_refl _) (And.intro (Nat.le_refl _) (And.intro (Nat.le_refl _) (And.intro (Nat.le_refl _) (And.intro (Nat.le_refl _) (And.intro (Nat.le_refl _) (And.intro (Nat.le_refl _) (And.intro (Nat.le_refl _) (And.intro (Nat.le_refl _) (And.intro (Nat.le_refl _) (And.intro (Nat.le_refl _) (And.intro (Nat.le_refl _) (And.intro (Nat.le_refl _) (And.intro (Nat.le_refl _) (And.intro (Nat.le_refl _) (And.intro (Nat.le_refl _) (And.intro (Nat.le_refl _) (And.intro (Nat.le_refl _) (And.intro (Nat.le_refl _) (And.intro (Nat.le_refl _) (And.intro (Nat.le_refl _) (And.intro (Nat.le_refl _) (And.intro (Nat.le_refl _) (And.intro (Nat.le_refl _) (And.intro (Nat.le_refl _) (And.intro (Nat.le_refl _) (And.intro (Nat.le_refl _) (And.intro (Nat.le_refl _) (And.intro (Nat.le_refl _) (And.intro (Nat.le_refl _) (And.intro (Nat.le_refl _) (And.intro (Nat.le_refl _) (And.intro (Nat.le_refl _) (And.intro (Nat.le_refl _) (And.intro (Nat.le_refl _) (And.intro (Nat.le_refl _) (And.intro (Nat.le_refl _) (And.intro (Nat.le_refl _) (And.intro (Nat.le_refl _) trivial))))))))))))))))))))))))))))))))))))))))))))))))))))))))))))))))))))))))))))))))))))))))))))))))))))))))))))))))))))))))))))))))))))))))))))))))))))))))))))))))))))))))) ?_
  decide +kernel
theorem z_len (n w : Nat) (S : zS) : (zP (zc n w) 168 S).length = 168 := by unfold zP; rw [List.length_map, List.length_range]
theorem z_a0 (n w : Nat) (S : zS) : ∃ fs, ip_h (zP (zc n w) 168 S) 32 = some (.inr (11, fs)) := ⟨_, z_h (c := 0) (by decide)⟩
theorem z_m0 (n w : Nat) (S : zS) : ∃ fs, ip_h (zP (zc n w) 168 S) 105 = some (.inr (12, fs)) := ⟨_, z_h (c := 73) (by decide)⟩
theorem p1_0 {l : Launch} {Gr : zG} {xs : Nat → Int32} (hG : ip_gk (lg_tbl, vwCl, Gr)) (hX : ∀ U : State, ip_X (lg_tbl, vwCl, Gr) U → va_X (ip_O (lg_tbl, vwCl, Gr) 0) 8 xs U U.heap) (hb : ip_O (lg_tbl, vwCl, Gr) 0 < ip_B (lg_tbl, vwCl, Gr)) {n w : Nat} (hn : 2 ≤ n ∧ n ≤ 16) (hw : 1 ≤ w ∧ w ≤ 32) (hk : xs 2 &&& 31 = 0) : ∃ S', ip_Rn l (lg_tbl, vwCl, Gr) M_La_law (16 + 4) 38 [some (.ref 0), some (.ref 32), some (.ref 105), some (.int (nI 2))] [] (zP (zc n w) 168 z0) (some (.int 1), zP (zc n w) 168 S') := by
  obtain ⟨f0, ha⟩ := z_a0 n w z0
  obtain ⟨_, S1, ⟨rfl, hf⟩, c1⟩ := p_feed hG (l := l) (Gr := Gr) (n := n) (w := w) (d := 18) (S := z0) (x1 := xs (2 + 1)) (x2 := xs (2 + 2)) (x3 := xs (2 + 3)) (x4 := xs (2 + 4)) (x5 := xs (2 + 5))
  obtain ⟨f1, hm⟩ := z_m0 n w S1
  obtain ⟨_, S2, ⟨rfl, -⟩, c2⟩ := q_feed hG (l := l) (Gr := Gr) (n := n) (w := w) (d := 18) (S := S1) (x1 := xs (2 + 1)) (x2 := xs (2 + 2)) (x3 := xs (2 + 3)) (x4 := xs (2 + 4)) (x5 := xs (2 + 5))
  exact ⟨S2, lw_enter hX hb (by omega) (by omega) (lw_sw0 hk (lw_0 (d := 19) hG hX hb (by omega) (by omega) ha hm c1 c2 (lw_next (lw_exit hX hb (by omega) (by omega) (by omega)))))⟩
theorem p1_1 {l : Launch} {Gr : zG} {xs : Nat → Int32} (hG : ip_gk (lg_tbl, vwCl, Gr)) (hX : ∀ U : State, ip_X (lg_tbl, vwCl, Gr) U → va_X (ip_O (lg_tbl, vwCl, Gr) 0) 8 xs U U.heap) (hb : ip_O (lg_tbl, vwCl, Gr) 0 < ip_B (lg_tbl, vwCl, Gr)) {n w : Nat} (hn : 2 ≤ n ∧ n ≤ 16) (hw : 1 ≤ w ∧ w ≤ 32) (hk : xs 2 &&& 31 = 1) : ∃ S', ip_Rn l (lg_tbl, vwCl, Gr) M_La_law (16 + 4) 38 [some (.ref 0), some (.ref 32), some (.ref 105), some (.int (nI 2))] [] (zP (zc n w) 168 z0) (some (.int 1), zP (zc n w) 168 S') := by
  obtain ⟨f0, ha⟩ := z_a0 n w z0
  obtain ⟨_, S1, ⟨x, rfl, hx, hf⟩, c1⟩ := p_end hG (l := l) (Gr := Gr) (n := n) (w := w) (d := 18) (x1 := xs (2 + 1))
  obtain ⟨f1, hm⟩ := z_m0 n w S1
  obtain ⟨_, S2, ⟨y, rfl, hy⟩, c2⟩ := q_end (l := l) (Gr := Gr) (n := n) (w := w) (d := 19) (x1 := xs (2 + 1)) hf
  have hxy : y = x := hy.trans hx.symm
  subst hxy
  exact ⟨S2, lw_enter hX hb (by omega) (by omega) (lw_sw1 hk (lw_1 (d := 19) hG hX hb (by omega) (by omega) ha hm c1 c2 (lw_next (lw_exit hX hb (by omega) (by omega) (by omega)))))⟩
theorem p1_2 {l : Launch} {Gr : zG} {xs : Nat → Int32} (hG : ip_gk (lg_tbl, vwCl, Gr)) (hX : ∀ U : State, ip_X (lg_tbl, vwCl, Gr) U → va_X (ip_O (lg_tbl, vwCl, Gr) 0) 8 xs U U.heap) (hb : ip_O (lg_tbl, vwCl, Gr) 0 < ip_B (lg_tbl, vwCl, Gr)) {n w : Nat} (hn : 2 ≤ n ∧ n ≤ 16) (hw : 1 ≤ w ∧ w ≤ 32) (hk : xs 2 &&& 31 = 2) : ∃ S', ip_Rn l (lg_tbl, vwCl, Gr) M_La_law (16 + 4) 38 [some (.ref 0), some (.ref 32), some (.ref 105), some (.int (nI 2))] [] (zP (zc n w) 168 z0) (some (.int 1), zP (zc n w) 168 S') := by
  obtain ⟨f0, ha⟩ := z_a0 n w z0
  obtain ⟨_, S1, ⟨x, rfl, hx, hf⟩, c1⟩ := p_compile hG hn.2 hw.2 (l := l) (Gr := Gr) (n := n) (w := w) (d := 15) 
  obtain ⟨f1, hm⟩ := z_m0 n w S1
  obtain ⟨_, S2, ⟨y, rfl, hy⟩, c2⟩ := q_compile hG hn.2 (l := l) (Gr := Gr) (n := n) (w := w) (d := 16)  hf
  have hxy : y = x := hy.trans hx.symm
  subst hxy
  exact ⟨S2, lw_enter hX hb (by omega) (by omega) (lw_sw2 hk (lw_2 (d := 19) hG hX hb (by omega) (by omega) ha hm c1 c2 (lw_next (lw_exit hX hb (by omega) (by omega) (by omega)))))⟩
theorem p1_3 {l : Launch} {Gr : zG} {xs : Nat → Int32} (hG : ip_gk (lg_tbl, vwCl, Gr)) (hX : ∀ U : State, ip_X (lg_tbl, vwCl, Gr) U → va_X (ip_O (lg_tbl, vwCl, Gr) 0) 8 xs U U.heap) (hb : ip_O (lg_tbl, vwCl, Gr) 0 < ip_B (lg_tbl, vwCl, Gr)) {n w : Nat} (hn : 2 ≤ n ∧ n ≤ 16) (hw : 1 ≤ w ∧ w ≤ 32) (hk : xs 2 &&& 31 = 3) : ∃ S', ip_Rn l (lg_tbl, vwCl, Gr) M_La_law (16 + 4) 38 [some (.ref 0), some (.ref 32), some (.ref 105), some (.int (nI 2))] [] (zP (zc n w) 168 z0) (some (.int 1), zP (zc n w) 168 S') := by
  obtain ⟨f0, ha⟩ := z_a0 n w z0
  obtain ⟨_, S1, ⟨x, rfl, hx, hf⟩, c1⟩ := p_look (l := l) (Gr := Gr) (n := n) (w := w) (d := 18) (x1 := xs (2 + 1))
  subst hf
  obtain ⟨f1, hm⟩ := z_m0 n w z0
  obtain ⟨_, S2, ⟨y, rfl, hy⟩, c2⟩ := q_look hG hn.2 (l := l) (Gr := Gr) (n := n) (w := w) (d := 18) (x1 := xs (2 + 1)) (zfr_rfl (S := z0))
  have hxy : y = x := hy.trans hx.symm
  subst hxy
  exact ⟨S2, lw_enter hX hb (by omega) (by omega) (lw_sw3 hk (lw_3 (d := 19) hG hX hb (by omega) (by omega) ha hm c1 c2 (lw_next (lw_exit hX hb (by omega) (by omega) (by omega)))))⟩
theorem p1_4 {l : Launch} {Gr : zG} {xs : Nat → Int32} (hG : ip_gk (lg_tbl, vwCl, Gr)) (hX : ∀ U : State, ip_X (lg_tbl, vwCl, Gr) U → va_X (ip_O (lg_tbl, vwCl, Gr) 0) 8 xs U U.heap) (hb : ip_O (lg_tbl, vwCl, Gr) 0 < ip_B (lg_tbl, vwCl, Gr)) {n w : Nat} (hn : 2 ≤ n ∧ n ≤ 16) (hw : 1 ≤ w ∧ w ≤ 32) (hk : xs 2 &&& 31 = 4) : ∃ S', ip_Rn l (lg_tbl, vwCl, Gr) M_La_law (16 + 4) 38 [some (.ref 0), some (.ref 32), some (.ref 105), some (.int (nI 2))] [] (zP (zc n w) 168 z0) (some (.int 1), zP (zc n w) 168 S') := by
  obtain ⟨f0, ha⟩ := z_a0 n w z0
  obtain ⟨_, S1, ⟨x, rfl, hx, hf⟩, c1⟩ := p_gate (l := l) (Gr := Gr) (n := n) (w := w) (d := 19) (x1 := xs (2 + 1)) (x2 := xs (2 + 2))
  subst hf
  obtain ⟨f1, hm⟩ := z_m0 n w z0
  obtain ⟨_, S2, ⟨y, rfl, hy⟩, c2⟩ := q_gate (l := l) (Gr := Gr) (n := n) (w := w) (d := 19) (x1 := xs (2 + 1)) (x2 := xs (2 + 2)) (zfr_rfl (S := z0))
  have hxy : y = x := hy.trans hx.symm
  subst hxy
  exact ⟨S2, lw_enter hX hb (by omega) (by omega) (lw_sw4 hk (lw_4 (d := 19) hG hX hb (by omega) (by omega) ha hm c1 c2 (lw_next (lw_exit hX hb (by omega) (by omega) (by omega)))))⟩
theorem p1_5 {l : Launch} {Gr : zG} {xs : Nat → Int32} (hG : ip_gk (lg_tbl, vwCl, Gr)) (hX : ∀ U : State, ip_X (lg_tbl, vwCl, Gr) U → va_X (ip_O (lg_tbl, vwCl, Gr) 0) 8 xs U U.heap) (hb : ip_O (lg_tbl, vwCl, Gr) 0 < ip_B (lg_tbl, vwCl, Gr)) {n w : Nat} (hn : 2 ≤ n ∧ n ≤ 16) (hw : 1 ≤ w ∧ w ≤ 32) (hk : xs 2 &&& 31 = 5) : ∃ S', ip_Rn l (lg_tbl, vwCl, Gr) M_La_law (16 + 4) 38 [some (.ref 0), some (.ref 32), some (.ref 105), some (.int (nI 2))] [] (zP (zc n w) 168 z0) (some (.int 1), zP (zc n w) 168 S') := by
  obtain ⟨f0, ha⟩ := z_a0 n w z0
  obtain ⟨_, S1, ⟨x, rfl, hx, hf⟩, c1⟩ := p_literal hG (l := l) (Gr := Gr) (n := n) (w := w) (d := 18) (x1 := xs (2 + 1)) (x2 := xs (2 + 2))
  subst hf
  obtain ⟨f1, hm⟩ := z_m0 n w z0
  obtain ⟨_, S2, ⟨y, rfl, hy⟩, c2⟩ := q_literal (l := l) (Gr := Gr) (n := n) (w := w) (d := 19) (x1 := xs (2 + 1)) (x2 := xs (2 + 2)) (zfr_rfl (S := z0))
  have hxy : y = x := hy.trans hx.symm
  subst hxy
  exact ⟨S2, lw_enter hX hb (by omega) (by omega) (lw_sw5 hk (lw_5 (d := 19) hG hX hb (by omega) (by omega) ha hm c1 c2 (lw_next (lw_exit hX hb (by omega) (by omega) (by omega)))))⟩
theorem p1_6 {l : Launch} {Gr : zG} {xs : Nat → Int32} (hG : ip_gk (lg_tbl, vwCl, Gr)) (hX : ∀ U : State, ip_X (lg_tbl, vwCl, Gr) U → va_X (ip_O (lg_tbl, vwCl, Gr) 0) 8 xs U U.heap) (hb : ip_O (lg_tbl, vwCl, Gr) 0 < ip_B (lg_tbl, vwCl, Gr)) {n w : Nat} (hn : 2 ≤ n ∧ n ≤ 16) (hw : 1 ≤ w ∧ w ≤ 32) (hk : xs 2 &&& 31 = 6) : ∃ S', ip_Rn l (lg_tbl, vwCl, Gr) M_La_law (16 + 4) 38 [some (.ref 0), some (.ref 32), some (.ref 105), some (.int (nI 2))] [] (zP (zc n w) 168 z0) (some (.int 1), zP (zc n w) 168 S') := by
  obtain ⟨f0, ha⟩ := z_a0 n w z0
  obtain ⟨_, S1, ⟨x, rfl, hx, hf⟩, c1⟩ := p_input (l := l) (Gr := Gr) (n := n) (w := w) (d := 19) (x1 := xs (2 + 1)) (x2 := xs (2 + 2))
  subst hf
  obtain ⟨f1, hm⟩ := z_m0 n w z0
  obtain ⟨_, S2, ⟨y, rfl, hy⟩, c2⟩ := q_input (l := l) (Gr := Gr) (n := n) (w := w) (d := 19) (x1 := xs (2 + 1)) (x2 := xs (2 + 2)) (zfr_rfl (S := z0))
  have hxy : y = x := hy.trans hx.symm
  subst hxy
  exact ⟨S2, lw_enter hX hb (by omega) (by omega) (lw_sw6 hk (lw_6 (d := 19) hG hX hb (by omega) (by omega) ha hm c1 c2 (lw_next (lw_exit hX hb (by omega) (by omega) (by omega)))))⟩
theorem p1_7 {l : Launch} {Gr : zG} {xs : Nat → Int32} (hG : ip_gk (lg_tbl, vwCl, Gr)) (hX : ∀ U : State, ip_X (lg_tbl, vwCl, Gr) U → va_X (ip_O (lg_tbl, vwCl, Gr) 0) 8 xs U U.heap) (hb : ip_O (lg_tbl, vwCl, Gr) 0 < ip_B (lg_tbl, vwCl, Gr)) {n w : Nat} (hn : 2 ≤ n ∧ n ≤ 16) (hw : 1 ≤ w ∧ w ≤ 32) (hk : xs 2 &&& 31 = 7) : ∃ S', ip_Rn l (lg_tbl, vwCl, Gr) M_La_law (16 + 4) 38 [some (.ref 0), some (.ref 32), some (.ref 105), some (.int (nI 2))] [] (zP (zc n w) 168 z0) (some (.int 1), zP (zc n w) 168 S') := by
  obtain ⟨f0, ha⟩ := z_a0 n w z0
  obtain ⟨_, S1, ⟨x, rfl, hx, hf⟩, c1⟩ := p_give (l := l) (Gr := Gr) (n := n) (w := w) (d := 19) (x1 := xs (2 + 1)) (x2 := xs (2 + 2))
  subst hf
  obtain ⟨f1, hm⟩ := z_m0 n w z0
  obtain ⟨_, S2, ⟨y, rfl, hy⟩, c2⟩ := q_give (l := l) (Gr := Gr) (n := n) (w := w) (d := 19) (x1 := xs (2 + 1)) (x2 := xs (2 + 2)) (zfr_rfl (S := z0))
  have hxy : y = x := hy.trans hx.symm
  subst hxy
  exact ⟨S2, lw_enter hX hb (by omega) (by omega) (lw_sw7 hk (lw_7 (d := 19) hG hX hb (by omega) (by omega) ha hm c1 c2 (lw_next (lw_exit hX hb (by omega) (by omega) (by omega)))))⟩
theorem p1_8 {l : Launch} {Gr : zG} {xs : Nat → Int32} (hG : ip_gk (lg_tbl, vwCl, Gr)) (hX : ∀ U : State, ip_X (lg_tbl, vwCl, Gr) U → va_X (ip_O (lg_tbl, vwCl, Gr) 0) 8 xs U U.heap) (hb : ip_O (lg_tbl, vwCl, Gr) 0 < ip_B (lg_tbl, vwCl, Gr)) {n w : Nat} (hn : 2 ≤ n ∧ n ≤ 16) (hw : 1 ≤ w ∧ w ≤ 32) (hk : xs 2 &&& 31 = 8) : ∃ S', ip_Rn l (lg_tbl, vwCl, Gr) M_La_law (16 + 4) 38 [some (.ref 0), some (.ref 32), some (.ref 105), some (.int (nI 2))] [] (zP (zc n w) 168 z0) (some (.int 1), zP (zc n w) 168 S') := by
  obtain ⟨f0, ha⟩ := z_a0 n w z0
  obtain ⟨_, S1, ⟨rfl, hf⟩, c1⟩ := p_seed (l := l) (Gr := Gr) (n := n) (w := w) (d := 19) (S := z0) (x1 := xs (2 + 1))
  obtain ⟨f1, hm⟩ := z_m0 n w S1
  obtain ⟨_, S2, ⟨rfl, -⟩, c2⟩ := q_seed (l := l) (Gr := Gr) (n := n) (w := w) (d := 19) (S := S1) (x1 := xs (2 + 1))
  exact ⟨S2, lw_enter hX hb (by omega) (by omega) (lw_sw8 hk (lw_8 (d := 19) hG hX hb (by omega) (by omega) ha hm c1 c2 (lw_next (lw_exit hX hb (by omega) (by omega) (by omega)))))⟩
theorem p1_9 {l : Launch} {Gr : zG} {xs : Nat → Int32} (hG : ip_gk (lg_tbl, vwCl, Gr)) (hX : ∀ U : State, ip_X (lg_tbl, vwCl, Gr) U → va_X (ip_O (lg_tbl, vwCl, Gr) 0) 8 xs U U.heap) (hb : ip_O (lg_tbl, vwCl, Gr) 0 < ip_B (lg_tbl, vwCl, Gr)) {n w : Nat} (hn : 2 ≤ n ∧ n ≤ 16) (hw : 1 ≤ w ∧ w ≤ 32) (hk : xs 2 &&& 31 = 9) : ∃ S', ip_Rn l (lg_tbl, vwCl, Gr) M_La_law (16 + 4) 38 [some (.ref 0), some (.ref 32), some (.ref 105), some (.int (nI 2))] [] (zP (zc n w) 168 z0) (some (.int 1), zP (zc n w) 168 S') := by
  obtain ⟨f0, ha⟩ := z_a0 n w z0
  obtain ⟨_, S1, ⟨x, rfl, hx, hf⟩, c1⟩ := p_draws hG (l := l) (Gr := Gr) (n := n) (w := w) (d := 18) (x1 := ((((xs (2 + 1))).toInt64 <<< ((32 : Int32).toInt64 &&& 63)) ||| (((xs (2 + 2))).toInt64 &&& 4294967295))) (x3 := xs (2 + 3))
  obtain ⟨f1, hm⟩ := z_m0 n w S1
  obtain ⟨_, S2, ⟨y, rfl, hy⟩, c2⟩ := q_draws (l := l) (Gr := Gr) (n := n) (w := w) (d := 19) (x1 := ((((xs (2 + 1))).toInt64 <<< ((32 : Int32).toInt64 &&& 63)) ||| (((xs (2 + 2))).toInt64 &&& 4294967295))) (x3 := xs (2 + 3)) hf
  have hxy : y = x := hy.trans hx.symm
  subst hxy
  exact ⟨S2, lw_enter hX hb (by omega) (by omega) (lw_sw9 hk (lw_9 (d := 19) hG hX hb (by omega) (by omega) ha hm c1 c2 (lw_next (lw_exit hX hb (by omega) (by omega) (by omega)))))⟩
theorem p1_10 {l : Launch} {Gr : zG} {xs : Nat → Int32} (hG : ip_gk (lg_tbl, vwCl, Gr)) (hX : ∀ U : State, ip_X (lg_tbl, vwCl, Gr) U → va_X (ip_O (lg_tbl, vwCl, Gr) 0) 8 xs U U.heap) (hb : ip_O (lg_tbl, vwCl, Gr) 0 < ip_B (lg_tbl, vwCl, Gr)) {n w : Nat} (hn : 2 ≤ n ∧ n ≤ 16) (hw : 1 ≤ w ∧ w ≤ 32) (hk : xs 2 &&& 31 = 10) : ∃ S', ip_Rn l (lg_tbl, vwCl, Gr) M_La_law (16 + 4) 38 [some (.ref 0), some (.ref 32), some (.ref 105), some (.int (nI 2))] [] (zP (zc n w) 168 z0) (some (.int 1), zP (zc n w) 168 S') := by
  obtain ⟨f0, ha⟩ := z_a0 n w z0
  obtain ⟨_, S1, ⟨x, rfl, hx, hf⟩, c1⟩ := p_deal (l := l) (Gr := Gr) (n := n) (w := w) (d := 18) 
  subst hf
  obtain ⟨f1, hm⟩ := z_m0 n w z0
  obtain ⟨_, S2, ⟨y, rfl, hy⟩, c2⟩ := q_deal (l := l) (Gr := Gr) (n := n) (w := w) (d := 18)  (zfr_rfl (S := z0))
  have hxy : y = x := hy.trans hx.symm
  subst hxy
  exact ⟨S2, lw_enter hX hb (by omega) (by omega) (lw_sw10 hk (lw_10 (d := 19) hG hX hb (by omega) (by omega) ha hm c1 c2 (lw_next (lw_exit hX hb (by omega) (by omega) (by omega)))))⟩
theorem p1_11 {l : Launch} {Gr : zG} {xs : Nat → Int32} (hG : ip_gk (lg_tbl, vwCl, Gr)) (hX : ∀ U : State, ip_X (lg_tbl, vwCl, Gr) U → va_X (ip_O (lg_tbl, vwCl, Gr) 0) 8 xs U U.heap) (hb : ip_O (lg_tbl, vwCl, Gr) 0 < ip_B (lg_tbl, vwCl, Gr)) {n w : Nat} (hn : 2 ≤ n ∧ n ≤ 16) (hw : 1 ≤ w ∧ w ≤ 32) (hk : xs 2 &&& 31 = 11) : ∃ S', ip_Rn l (lg_tbl, vwCl, Gr) M_La_law (16 + 4) 38 [some (.ref 0), some (.ref 32), some (.ref 105), some (.int (nI 2))] [] (zP (zc n w) 168 z0) (some (.int 1), zP (zc n w) 168 S') := by
  obtain ⟨f0, ha⟩ := z_a0 n w z0
  obtain ⟨_, S1, ⟨x, rfl, hx, hf⟩, c1⟩ := p_message hG (l := l) (Gr := Gr) (n := n) (w := w) (d := 18) (x1 := xs (2 + 1)) (x2 := xs (2 + 2))
  subst hf
  obtain ⟨f1, hm⟩ := z_m0 n w z0
  obtain ⟨_, S2, ⟨y, rfl, hy⟩, c2⟩ := q_message (l := l) (Gr := Gr) (n := n) (w := w) (d := 18) (x1 := xs (2 + 1)) (x2 := xs (2 + 2)) (zfr_rfl (S := z0))
  have hxy : y = x := hy.trans hx.symm
  subst hxy
  exact ⟨S2, lw_enter hX hb (by omega) (by omega) (lw_sw11 hk (lw_11 (d := 19) hG hX hb (by omega) (by omega) ha hm c1 c2 (lw_next (lw_exit hX hb (by omega) (by omega) (by omega)))))⟩
theorem p1_12 {l : Launch} {Gr : zG} {xs : Nat → Int32} (hG : ip_gk (lg_tbl, vwCl, Gr)) (hX : ∀ U : State, ip_X (lg_tbl, vwCl, Gr) U → va_X (ip_O (lg_tbl, vwCl, Gr) 0) 8 xs U U.heap) (hb : ip_O (lg_tbl, vwCl, Gr) 0 < ip_B (lg_tbl, vwCl, Gr)) {n w : Nat} (hn : 2 ≤ n ∧ n ≤ 16) (hw : 1 ≤ w ∧ w ≤ 32) (hk : xs 2 &&& 31 = 12) : ∃ S', ip_Rn l (lg_tbl, vwCl, Gr) M_La_law (16 + 4) 38 [some (.ref 0), some (.ref 32), some (.ref 105), some (.int (nI 2))] [] (zP (zc n w) 168 z0) (some (.int 1), zP (zc n w) 168 S') := by
  obtain ⟨f0, ha⟩ := z_a0 n w z0
  obtain ⟨_, S1, ⟨x, rfl, hx, hf⟩, c1⟩ := p_deliver hG (l := l) (Gr := Gr) (n := n) (w := w) (d := 18) (x1 := xs (2 + 1))
  subst hf
  obtain ⟨f1, hm⟩ := z_m0 n w z0
  obtain ⟨_, S2, ⟨y, rfl, hy⟩, c2⟩ := q_deliver (l := l) (Gr := Gr) (n := n) (w := w) (d := 18) (x1 := xs (2 + 1)) (zfr_rfl (S := z0))
  have hxy : y = x := hy.trans hx.symm
  subst hxy
  exact ⟨S2, lw_enter hX hb (by omega) (by omega) (lw_sw12 hk (lw_12 (d := 19) hG hX hb (by omega) (by omega) ha hm c1 c2 (lw_next (lw_exit hX hb (by omega) (by omega) (by omega)))))⟩
theorem p1_13 {l : Launch} {Gr : zG} {xs : Nat → Int32} (hG : ip_gk (lg_tbl, vwCl, Gr)) (hX : ∀ U : State, ip_X (lg_tbl, vwCl, Gr) U → va_X (ip_O (lg_tbl, vwCl, Gr) 0) 8 xs U U.heap) (hb : ip_O (lg_tbl, vwCl, Gr) 0 < ip_B (lg_tbl, vwCl, Gr)) {n w : Nat} (hn : 2 ≤ n ∧ n ≤ 16) (hw : 1 ≤ w ∧ w ≤ 32) (hk : xs 2 &&& 31 = 13) : ∃ S', ip_Rn l (lg_tbl, vwCl, Gr) M_La_law (16 + 4) 38 [some (.ref 0), some (.ref 32), some (.ref 105), some (.int (nI 2))] [] (zP (zc n w) 168 z0) (some (.int 1), zP (zc n w) 168 S') := by
  obtain ⟨f0, ha⟩ := z_a0 n w z0
  obtain ⟨_, S1, ⟨x, rfl, hx, hf⟩, c1⟩ := p_rush (l := l) (Gr := Gr) (n := n) (w := w) (d := 18) (x1 := xs (2 + 1)) (x2 := xs (2 + 2))
  subst hf
  obtain ⟨f1, hm⟩ := z_m0 n w z0
  obtain ⟨_, S2, ⟨y, rfl, hy⟩, c2⟩ := q_rush (l := l) (Gr := Gr) (n := n) (w := w) (d := 18) (x1 := xs (2 + 1)) (x2 := xs (2 + 2)) (zfr_rfl (S := z0))
  have hxy : y = x := hy.trans hx.symm
  subst hxy
  exact ⟨S2, lw_enter hX hb (by omega) (by omega) (lw_sw13 hk (lw_13 (d := 19) hG hX hb (by omega) (by omega) ha hm c1 c2 (lw_next (lw_exit hX hb (by omega) (by omega) (by omega)))))⟩
theorem p1_14 {l : Launch} {Gr : zG} {xs : Nat → Int32} (hG : ip_gk (lg_tbl, vwCl, Gr)) (hX : ∀ U : State, ip_X (lg_tbl, vwCl, Gr) U → va_X (ip_O (lg_tbl, vwCl, Gr) 0) 8 xs U U.heap) (hb : ip_O (lg_tbl, vwCl, Gr) 0 < ip_B (lg_tbl, vwCl, Gr)) {n w : Nat} (hn : 2 ≤ n ∧ n ≤ 16) (hw : 1 ≤ w ∧ w ≤ 32) (hk : xs 2 &&& 31 = 14) : ∃ S', ip_Rn l (lg_tbl, vwCl, Gr) M_La_law (16 + 4) 38 [some (.ref 0), some (.ref 32), some (.ref 105), some (.int (nI 2))] [] (zP (zc n w) 168 z0) (some (.int 1), zP (zc n w) 168 S') := by
  obtain ⟨f0, ha⟩ := z_a0 n w z0
  obtain ⟨_, S1, ⟨x, rfl, hx, hf⟩, c1⟩ := p_party hG (l := l) (Gr := Gr) (n := n) (w := w) (d := 18) (x1 := xs (2 + 1)) (x2 := xs (2 + 2))
  subst hf
  obtain ⟨f1, hm⟩ := z_m0 n w z0
  obtain ⟨_, S2, ⟨y, rfl, hy⟩, c2⟩ := q_party (l := l) (Gr := Gr) (n := n) (w := w) (d := 18) (x1 := xs (2 + 1)) (x2 := xs (2 + 2)) (zfr_rfl (S := z0))
  have hxy : y = x := hy.trans hx.symm
  subst hxy
  exact ⟨S2, lw_enter hX hb (by omega) (by omega) (lw_sw14 hk (lw_14 (d := 19) hG hX hb (by omega) (by omega) ha hm c1 c2 (lw_next (lw_exit hX hb (by omega) (by omega) (by omega)))))⟩
theorem p1_15 {l : Launch} {Gr : zG} {xs : Nat → Int32} (hG : ip_gk (lg_tbl, vwCl, Gr)) (hX : ∀ U : State, ip_X (lg_tbl, vwCl, Gr) U → va_X (ip_O (lg_tbl, vwCl, Gr) 0) 8 xs U U.heap) (hb : ip_O (lg_tbl, vwCl, Gr) 0 < ip_B (lg_tbl, vwCl, Gr)) {n w : Nat} (hn : 2 ≤ n ∧ n ≤ 16) (hw : 1 ≤ w ∧ w ≤ 32) (hk : xs 2 &&& 31 = 15) : ∃ S', ip_Rn l (lg_tbl, vwCl, Gr) M_La_law (16 + 4) 38 [some (.ref 0), some (.ref 32), some (.ref 105), some (.int (nI 2))] [] (zP (zc n w) 168 z0) (some (.int 1), zP (zc n w) 168 S') := by
  obtain ⟨f0, ha⟩ := z_a0 n w z0
  obtain ⟨_, S1, ⟨x, rfl, hx, hf⟩, c1⟩ := p_dealt hG (l := l) (Gr := Gr) (n := n) (w := w) (d := 18) (x1 := xs (2 + 1)) (x2 := xs (2 + 2)) (x3 := xs (2 + 3))
  subst hf
  obtain ⟨f1, hm⟩ := z_m0 n w z0
  obtain ⟨_, S2, ⟨y, rfl, hy⟩, c2⟩ := q_dealt (l := l) (Gr := Gr) (n := n) (w := w) (d := 19) (x1 := xs (2 + 1)) (x2 := xs (2 + 2)) (x3 := xs (2 + 3)) (zfr_rfl (S := z0))
  have hxy : y = x := hy.trans hx.symm
  subst hxy
  exact ⟨S2, lw_enter hX hb (by omega) (by omega) (lw_sw15 hk (lw_15 (d := 19) hG hX hb (by omega) (by omega) ha hm c1 c2 (lw_next (lw_exit hX hb (by omega) (by omega) (by omega)))))⟩
theorem p1_16 {l : Launch} {Gr : zG} {xs : Nat → Int32} (hG : ip_gk (lg_tbl, vwCl, Gr)) (hX : ∀ U : State, ip_X (lg_tbl, vwCl, Gr) U → va_X (ip_O (lg_tbl, vwCl, Gr) 0) 8 xs U U.heap) (hb : ip_O (lg_tbl, vwCl, Gr) 0 < ip_B (lg_tbl, vwCl, Gr)) {n w : Nat} (hn : 2 ≤ n ∧ n ≤ 16) (hw : 1 ≤ w ∧ w ≤ 32) (hk : xs 2 &&& 31 = 16) : ∃ S', ip_Rn l (lg_tbl, vwCl, Gr) M_La_law (16 + 4) 38 [some (.ref 0), some (.ref 32), some (.ref 105), some (.int (nI 2))] [] (zP (zc n w) 168 z0) (some (.int 1), zP (zc n w) 168 S') := by
  obtain ⟨f0, ha⟩ := z_a0 n w z0
  obtain ⟨_, S1, ⟨x, rfl, hx, hf⟩, c1⟩ := p_share hG (l := l) (Gr := Gr) (n := n) (w := w) (d := 18) (x1 := xs (2 + 1)) (x2 := xs (2 + 2))
  subst hf
  obtain ⟨f1, hm⟩ := z_m0 n w z0
  obtain ⟨_, S2, ⟨y, rfl, hy⟩, c2⟩ := q_share (l := l) (Gr := Gr) (n := n) (w := w) (d := 19) (x1 := xs (2 + 1)) (x2 := xs (2 + 2)) (zfr_rfl (S := z0))
  have hxy : y = x := hy.trans hx.symm
  subst hxy
  exact ⟨S2, lw_enter hX hb (by omega) (by omega) (lw_sw16 hk (lw_16 (d := 19) hG hX hb (by omega) (by omega) ha hm c1 c2 (lw_next (lw_exit hX hb (by omega) (by omega) (by omega)))))⟩
theorem p1_17 {l : Launch} {Gr : zG} {xs : Nat → Int32} (hG : ip_gk (lg_tbl, vwCl, Gr)) (hX : ∀ U : State, ip_X (lg_tbl, vwCl, Gr) U → va_X (ip_O (lg_tbl, vwCl, Gr) 0) 8 xs U U.heap) (hb : ip_O (lg_tbl, vwCl, Gr) 0 < ip_B (lg_tbl, vwCl, Gr)) {n w : Nat} (hn : 2 ≤ n ∧ n ≤ 16) (hw : 1 ≤ w ∧ w ≤ 32) (hk : xs 2 &&& 31 = 17) : ∃ S', ip_Rn l (lg_tbl, vwCl, Gr) M_La_law (16 + 4) 38 [some (.ref 0), some (.ref 32), some (.ref 105), some (.int (nI 2))] [] (zP (zc n w) 168 z0) (some (.int 1), zP (zc n w) 168 S') := by
  obtain ⟨f0, ha⟩ := z_a0 n w z0
  obtain ⟨_, S1, ⟨x, rfl, hx, hf⟩, c1⟩ := p_view hG (l := l) (Gr := Gr) (n := n) (w := w) (d := 18) (x1 := xs (2 + 1)) (x2 := xs (2 + 2))
  subst hf
  obtain ⟨f1, hm⟩ := z_m0 n w z0
  obtain ⟨_, S2, ⟨y, rfl, hy⟩, c2⟩ := q_view (l := l) (Gr := Gr) (n := n) (w := w) (d := 18) (x1 := xs (2 + 1)) (x2 := xs (2 + 2)) (zfr_rfl (S := z0))
  have hxy : y = x := hy.trans hx.symm
  subst hxy
  exact ⟨S2, lw_enter hX hb (by omega) (by omega) (lw_sw17 hk (lw_17 (d := 19) hG hX hb (by omega) (by omega) ha hm c1 c2 (lw_next (lw_exit hX hb (by omega) (by omega) (by omega)))))⟩
theorem p1_18 {l : Launch} {Gr : zG} {xs : Nat → Int32} (hG : ip_gk (lg_tbl, vwCl, Gr)) (hX : ∀ U : State, ip_X (lg_tbl, vwCl, Gr) U → va_X (ip_O (lg_tbl, vwCl, Gr) 0) 8 xs U U.heap) (hb : ip_O (lg_tbl, vwCl, Gr) 0 < ip_B (lg_tbl, vwCl, Gr)) {n w : Nat} (hn : 2 ≤ n ∧ n ≤ 16) (hw : 1 ≤ w ∧ w ≤ 32) (hk : xs 2 &&& 31 = 18) : ∃ S', ip_Rn l (lg_tbl, vwCl, Gr) M_La_law (16 + 4) 38 [some (.ref 0), some (.ref 32), some (.ref 105), some (.int (nI 2))] [] (zP (zc n w) 168 z0) (some (.int 1), zP (zc n w) 168 S') := by
  obtain ⟨f0, ha⟩ := z_a0 n w z0
  obtain ⟨_, S1, ⟨x, rfl, hx, hf⟩, c1⟩ := p_told hG (l := l) (Gr := Gr) (n := n) (w := w) (d := 18) (x1 := xs (2 + 1)) (x2 := xs (2 + 2))
  subst hf
  obtain ⟨f1, hm⟩ := z_m0 n w z0
  obtain ⟨_, S2, ⟨y, rfl, hy⟩, c2⟩ := q_told (l := l) (Gr := Gr) (n := n) (w := w) (d := 18) (x1 := xs (2 + 1)) (x2 := xs (2 + 2)) (zfr_rfl (S := z0))
  have hxy : y = x := hy.trans hx.symm
  subst hxy
  exact ⟨S2, lw_enter hX hb (by omega) (by omega) (lw_sw18 hk (lw_18 (d := 19) hG hX hb (by omega) (by omega) ha hm c1 c2 (lw_next (lw_exit hX hb (by omega) (by omega) (by omega)))))⟩
theorem p1_19 {l : Launch} {Gr : zG} {xs : Nat → Int32} (hG : ip_gk (lg_tbl, vwCl, Gr)) (hX : ∀ U : State, ip_X (lg_tbl, vwCl, Gr) U → va_X (ip_O (lg_tbl, vwCl, Gr) 0) 8 xs U U.heap) (hb : ip_O (lg_tbl, vwCl, Gr) 0 < ip_B (lg_tbl, vwCl, Gr)) {n w : Nat} (hn : 2 ≤ n ∧ n ≤ 16) (hw : 1 ≤ w ∧ w ≤ 32) (hk : xs 2 &&& 31 = 19) : ∃ S', ip_Rn l (lg_tbl, vwCl, Gr) M_La_law (16 + 4) 38 [some (.ref 0), some (.ref 32), some (.ref 105), some (.int (nI 2))] [] (zP (zc n w) 168 z0) (some (.int 1), zP (zc n w) 168 S') := by
  obtain ⟨f0, ha⟩ := z_a0 n w z0
  obtain ⟨_, S1, ⟨x, rfl, hx, hf⟩, c1⟩ := p_truth hG (l := l) (Gr := Gr) (n := n) (w := w) (d := 18) (x1 := xs (2 + 1))
  subst hf
  obtain ⟨f1, hm⟩ := z_m0 n w z0
  obtain ⟨_, S2, ⟨y, rfl, hy⟩, c2⟩ := q_truth (l := l) (Gr := Gr) (n := n) (w := w) (d := 18) (x1 := xs (2 + 1)) (zfr_rfl (S := z0))
  have hxy : y = x := hy.trans hx.symm
  subst hxy
  exact ⟨S2, lw_enter hX hb (by omega) (by omega) (lw_sw19 hk (lw_19 (d := 19) hG hX hb (by omega) (by omega) ha hm c1 c2 (lw_next (lw_exit hX hb (by omega) (by omega) (by omega)))))⟩
theorem p1_d {l : Launch} {Gr : zG} {xs : Nat → Int32} (hG : ip_gk (lg_tbl, vwCl, Gr)) (hX : ∀ U : State, ip_X (lg_tbl, vwCl, Gr) U → va_X (ip_O (lg_tbl, vwCl, Gr) 0) 8 xs U U.heap) (hb : ip_O (lg_tbl, vwCl, Gr) 0 < ip_B (lg_tbl, vwCl, Gr)) {n w : Nat} (hn : 2 ≤ n ∧ n ≤ 16) (hw : 1 ≤ w ∧ w ≤ 32) (hk : 19 < (xs 2 &&& 31).toInt) : ∃ S', ip_Rn l (lg_tbl, vwCl, Gr) M_La_law (16 + 4) 38 [some (.ref 0), some (.ref 32), some (.ref 105), some (.int (nI 2))] [] (zP (zc n w) 168 z0) (some (.int 1), zP (zc n w) 168 S') :=
  ⟨z0, lw_enter hX hb (by omega) (by omega) (lw_swd hk (lw_next (lw_exit hX hb (by omega) (by omega) (by omega))))⟩
theorem p1_all {l : Launch} {Gr : zG} {xs : Nat → Int32} (hG : ip_gk (lg_tbl, vwCl, Gr)) (hX : ∀ U : State, ip_X (lg_tbl, vwCl, Gr) U → va_X (ip_O (lg_tbl, vwCl, Gr) 0) 8 xs U U.heap) (hb : ip_O (lg_tbl, vwCl, Gr) 0 < ip_B (lg_tbl, vwCl, Gr)) {n w : Nat} (hn : 2 ≤ n ∧ n ≤ 16) (hw : 1 ≤ w ∧ w ≤ 32) : ∃ S', ip_Rn l (lg_tbl, vwCl, Gr) M_La_law (16 + 4) 38 [some (.ref 0), some (.ref 32), some (.ref 105), some (.int (nI 2))] [] (zP (zc n w) 168 z0) (some (.int 1), zP (zc n w) 168 S') := by
  obtain ⟨k, hk, e⟩ := lw_op (xs 2)
  match k, hk, e with
  | 0, _, e => exact p1_0 hG hX hb hn hw e
  | 1, _, e => exact p1_1 hG hX hb hn hw e
  | 2, _, e => exact p1_2 hG hX hb hn hw e
  | 3, _, e => exact p1_3 hG hX hb hn hw e
  | 4, _, e => exact p1_4 hG hX hb hn hw e
  | 5, _, e => exact p1_5 hG hX hb hn hw e
  | 6, _, e => exact p1_6 hG hX hb hn hw e
  | 7, _, e => exact p1_7 hG hX hb hn hw e
  | 8, _, e => exact p1_8 hG hX hb hn hw e
  | 9, _, e => exact p1_9 hG hX hb hn hw e
  | 10, _, e => exact p1_10 hG hX hb hn hw e
  | 11, _, e => exact p1_11 hG hX hb hn hw e
  | 12, _, e => exact p1_12 hG hX hb hn hw e
  | 13, _, e => exact p1_13 hG hX hb hn hw e
  | 14, _, e => exact p1_14 hG hX hb hn hw e
  | 15, _, e => exact p1_15 hG hX hb hn hw e
  | 16, _, e => exact p1_16 hG hX hb hn hw e
  | 17, _, e => exact p1_17 hG hX hb hn hw e
  | 18, _, e => exact p1_18 hG hX hb hn hw e
  | 19, _, e => exact p1_19 hG hX hb hn hw e
  | k + 20, hk, e => exact p1_d hG hX hb hn hw (by rw [e, nI_toInt (by omega)]; omega)
/-- YOUR PART: from the entry, for every script of at most 8 ints, the law comes to its end with true -/
theorem whole_start {p : Program} {e : Env} {s : State} {m : MethodId} {below : List Frame} {meth : Method} {c : Code} (l : Launch) {b L : Nat} {xs : Nat → Int32} (hL : L ≤ 8) (C0 : lw_At p s m meth c b L xs) : W p l e room_1 s m #[Value.ref b] below meth c s.heap [] 0 0 (lw_Z below #[Value.ref b] s) (entryFrame m ([Value.ref b] : List Value).toArray 4) := by
  refine ip_whole l C0 (16 + 4) (by omega) (fun Gr hG hX hb => ?_)
  obtain ⟨n, hn, e0⟩ := cl_ex 2 16 (by omega) (by omega) (if 0 < L then xs 0 else 0)
  obtain ⟨w, hw, e1⟩ := cl_ex 1 32 (by omega) (by omega) (if 1 < L then xs 1 else 0)
  have key : ∃ S', ip_Rn l (lg_tbl, vwCl, Gr) M_La_law (16 + 4) 38 [some (.ref 0), some (.ref 32), some (.ref 105), some (.int (nI 2))] [] (zP (zc n w) 168 z0) (some (.int 1), zP (zc n w) 168 S') := by
    by_cases h8 : L = 8
    · subst h8
      exact p1_all hG hX hb hn hw
    · exact ⟨z0, lw_exit hX hb (by omega) (by omega) (by omega)⟩
  obtain ⟨S', k⟩ := key
  refine ⟨zP (zc n w) 168 S', by rw [z_len]; omega, z_room hn hw S', ?_⟩
  rw [← z0_pic] at k
  exact lw_prol hG hX hb (by omega) 16 hn hw rfl rfl e0 e1 k
set_option maxHeartbeats 4000000 in
theorem lw_walk (l : Launch) (b : Addr) (xs : List Int32) : MetFree l x (headSpec (Jvm.Cond.code x code maxLocals ret :: tables_1) room_1) (lw_P b xs) (fun _ _ _ _ _ => True) lw_Q := by
  refine MetFree.of_bodyS (code := code) (maxLocals := maxLocals) (ret := ret) (by decide) ?_ ?_
  · intro args s m h hn
    obtain ⟨meth, c, h1, h2, h3, h4, h5, h6, -, -⟩ := Cond.code_spec hn (atoms_spec (ws := Jvm.Cond.code x code maxLocals ret :: tables_1) h _ List.mem_cons_self)
    exact ⟨meth, c, h1, h2, h3, h4, h5, h6⟩
  · intro p e s m args below meth c s₁ B hml0 hP _
    obtain ⟨rfl, hx, hbd, hgv⟩ := hP
    obtain ⟨scr, harrAt, hlist, hof, hsmall⟩ := hx
    obtain ⟨hcb, hkn, -, -⟩ := State.arrayAt?_spec harrAt
    have hown : s.vm.findClass R_law = some m.cls := findClass_of_methodNamed B.named
    have hts0 : ∀ c ∈ (Jvm.Cond.code x code maxLocals ret :: tables_1), c.before #[Value.ref b] s = true := atoms_spec (ws := Jvm.Cond.code x code maxLocals ret :: tables_1) B.pre
    have hts : ∀ w ∈ lw_tbl, w.before #[Value.ref b] s = true := k2_hts_sels lw_privs (fun w hw => hts0 w (List.mem_cons_of_mem _ hw)) lw_privs_ok
    have hml : c.maxLocals = 4 := B.maxLocals_eq (hts0 _ List.mem_cons_self)
    have X₀ : Stand p l e room_1 s m #[Value.ref b] below meth c s₁ [] 0 0 := Stand.of_body B
    have hh0 : s₁.heap = s.heap := by rw [B.state]; rfl
    have hsz : scr.slots.size = xs.length := by rw [← Array.length_toList, hlist, List.length_map]
    have hval : ∀ j : Nat, j < xs.length → scr.slots[j]? = some (.int (xs.getD j 0)) := fun j hj => by
      rw [← Array.getElem?_toList, hlist]
      simp [hj]
    have hbl : b < s.heap.size := (Array.getElem?_eq_some_iff.mp hcb).1
    have hX : va_X b xs.length (fun j => xs.getD j 0) s s.heap := ⟨scr, hcb, hof, hkn, hsz, hval⟩
    have K : W p l e room_1 s m #[Value.ref b] below meth c s₁.heap [] 0 0 (lw_Z below #[Value.ref b] s) (entryFrame m ([Value.ref b] : List Value).toArray 4) := by
      rw [hh0]
      exact whole_start l hbd ⟨B.exec, B.bytes, B.returns, hml, hown, hts, hX, hbl, B.notSynchronized, hgv⟩
    obtain ⟨t, a1, o, b1, b2, b3⟩ := K s₁ rfl X₀
    exact ⟨t, o, a1, b1, b2, b3⟩
theorem lw_pre_spec {args : Array Value} {s : State} (h : (Jvm.Cond.and given_1 narrow_1).before args s = true) (hr : rest_1_c.before args s = true) : ∃ (b : Addr) (xs : List Int32), lw_P b xs args s := by
  have hs := flat_of_before _ h
  have hq := flat_of_before _ hr
  have hc : (Cond.count 1).before args s = true := hs _ (by decide +kernel)
  have harr : (Cond.arrayOf (.arg 0) .int).before args s = true := hs _ (by decide +kernel)
  have hle : (Cond.le (.length (.arg 0)) (.int 8)).before args s = true := hs _ (by decide +kernel)
  have hlen : (Cond.isInt (.length (.arg 0))).before args s = true := hq _ (by decide +kernel)
  have hall : (Cond.all (.arg 0) (.isInt (.elem (.arg 0) (.index 0)))).before args s = true := hq _ (by decide +kernel)
  obtain ⟨b, xs, hb, hx⟩ := State.ints_of_pre rfl harr hlen hall
  have hsm : xs.length < 2 ^ 31 := hx.choose_spec.2.2.2
  have hev : (Term.length (.arg 0)).eval args s none [] s = some (.int xs.length.toInt32) := hx.length_eval hb
  have hv := Cond.le_ints hev (show (Term.int 8).eval args s none [] s = some (.int 8) from rfl)
  have hd : xs.length.toInt32 ≤ 8 := by
    simpa [Cond.before, Cond.holds, hv] using hle
  have hN : xs.length ≤ 8 := (Int32.ofNat_le_ofNat hsm (by decide)).mp (show Int32.ofNat xs.length ≤ Int32.ofNat 8 from hd)
  exact ⟨b, xs, Cond.one_arg hc (show args[0]? = some (.ref b) from hb), hx, hN, h⟩
theorem lw_comes (l : Launch) : Comes l x (Jvm.Cond.code x code maxLocals ret :: tables_1) room_1 (fun tb e args s => Calls_1 tb e args s ∧ rest_1 tb e args s ∧ Pre_1 tb e args s)
    (fun _ _ args s o t => lw_Q args s o t) := by
  intro p e ha hc hk s m args below hf hfit hheap happ hpre
  obtain ⟨b, xs, hP⟩ := lw_pre_spec hpre.2.2 hpre.2.1
  obtain ⟨k, o, h1, h2, h3, hQ⟩ := lw_walk l b xs p e ha hc hk s m args below hf ((Spec.applies_iff_loose hf).mp happ).1 hP trivial
  exact ⟨k, o, h1, h2, h3, hQ⟩
theorem lw_frame {s t : State} {o : Outcome} {args : Array Value} (h : Framed s o t [] 467681 7699206) :
    Framed s o t (fieldLocs frame_1_writes args s ++ arrayLocs frame_1_arrays args s ++ staticLocs frame_1_statics s) 467681 7699206 := h
theorem lw_limb (L : Cond) (hL : ∀ (args : Array Value) (s t : State), L.after args s (.returned (some (.int 1))) t = true) :
    ArmFor flags0 classFile x code maxLocals ret World_1 tables_1 room_1 Calls_1 rest_1 Pre_1
      (fun tb e a s o t => postC L tb e a s o t ∧ Framed s o t (fieldLocs frame_1_writes a s ++ arrayLocs frame_1_arrays a s ++ staticLocs frame_1_statics s) 467681 7699206) := by
  intro l _ _ _ p e ha hc hk s m args below hf hfit hheap happ hpre
  obtain ⟨k, o, h1, h2, h3, rfl, hF⟩ := lw_comes l p e ha hc hk s m args below hf hfit hheap happ hpre
  exact ⟨k, _, h1, h2, h3, hL args s _, lw_frame hF⟩
theorem i_vc : Claimed_1_1 ∧ Claimed_1_2 := ⟨lw_limb limb_1_1 (fun args s t => by simp [limb_1_1, Cond.after, Cond.holds, Cond.value]), lw_limb limb_1_2 (fun args s t => Cond.after_iff.mpr (by
  first | (rw [show limb_1_2 = Cond.eq .result (.int 1) from rfl, Cond.eq_ints (x := 1) (y := 1) rfl rfl]; simp; done) | (simp [limb_1_2, Cond.value, Term.eval]; done)))⟩

