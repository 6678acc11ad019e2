/-! mean() beside build: operators, shifts, bits, choices, elements, calls -/
theorem nvb_cn {Y : Nat → Int32} {w N : Nat} (hY : ∀ x, x < w → Y x = bC (N.testBit x)) (hN : N < 2 ^ w) : nvb (xbo Y) w 0 = N := by
  rw [nvb_cg (y := fun j => N.testBit j) w 0 (fun j _ hj => ?_), nvb_w hN]
  unfold xbo
  rw [hY j (by omega)]
  cases N.testBit j <;> rfl
theorem bn_lt {w o r1 NX NY : Nat} (hr1 : r1 ≤ 1) (h8 : 8 ≤ o → r1 = 0) (ho : o ≤ 18) (ho1 : 1 ≤ o) (hX : NX < 2 ^ bw w r1) (hY : NY < 2 ^ bw w r1) : bnN w o NX NY % 2 ^ w < 2 ^ bw w (if 6 ≤ o ∧ o ≤ 11 then 1 else r1) := by
  by_cases z : 6 ≤ o ∧ o ≤ 11
  · rw [if_pos z]
    have : bnN w o NX NY ≤ 1 := by
      unfold bnN
      rw [if_neg (by omega), if_neg (by omega), if_neg (by omega)]
      repeat' split
      all_goals omega
    exact Nat.lt_of_le_of_lt (Nat.mod_le _ _) (show bnN w o NX NY < 2 ^ 1 by omega)
  · rw [if_neg z]
    by_cases z1 : r1 = 1
    · subst z1
      have hX : NX < 2 ^ 1 := hX
      have hY : NY < 2 ^ 1 := hY
      have ho5 : o = 1 ∨ o = 2 ∨ o = 3 ∨ o = 4 ∨ o = 5 := by omega
      have : bnN w o NX NY < 2 ^ 1 := by
        unfold bnN
        by_cases q1 : o = 1 ∨ o = 3
        · rw [if_pos q1]
          exact Nat.or_lt_two_pow hX hY
        · rw [if_neg q1]
          by_cases q2 : o = 2 ∨ o = 5
          · rw [if_pos q2]
            exact Nat.lt_of_le_of_lt Nat.and_le_left hX
          · rw [if_neg q2, if_pos (by omega)]
            exact Nat.xor_lt_two_pow hX hY
      exact Nat.lt_of_le_of_lt (Nat.mod_le _ _) this
    · have : r1 = 0 := by omega
      subst this
      exact Nat.mod_lt _ (Nat.two_pow_pos w)
section NOE
variable {l l2 : Launch} {Gr Gr2 : zG} {n w d d2 : Nat} {inb : Nat → Nat} {wb : Nat} {act c c1 : Prop} {Av Av' : Nat → Nat → Prop} {S T B B' C C' X : zS} {rf cd hrb hr st i i' j j' j1 j2 j3 r r1 k z N M v o D e a m q h : Nat} {os : List Nat} {cs : Nat → Prop} {u : Int64}
theorem ox_bin (hg : ip_gk (lg_tbl, vwCl, Gr)) (hg2 : ip_gk (lg_tbl, vwCl, Gr2)) (hw1 : 1 ≤ w) (hw : w ≤ 32) (hi : ∀ t, inb t = 0 ∨ inb t = 1) (cx : CTX S T N M) (hb : hrb ≤ hr) (h1 : OU l l2 Gr Gr2 n w d d2 inb wb act Av S T rf cd hrb [r1, r1] (fun _ => c) j j2 hr st B C) (hoo : 1 ≤ o ∧ o ≤ 18 ∧ o ≠ 12 ∧ o ≠ 13) (hr1 : r1 ≤ 1) (h8 : 8 ≤ o → r1 = 0) (hrr : r = if 6 ≤ o ∧ o ≤ 11 then 1 else r1) (t1 : T.1 78 j2 = 13) (t2 : T.1 79 j2 = nI o) (t3 : T.1 80 j2 = nI r1) (hj : j2 < M) (hhr : hr + 1 < 4200) : OU l l2 Gr Gr2 n w d d2 inb wb act Av S T rf cd hrb [r] (fun _ => c) j (j2 + 1) hr st B C := by
  have hM := cx.2.2.2
  refine OU_seq h1 (fun B1 C1 st1 x1 o1 => ?_)
  obtain ⟨NX, x1', x2, x3⟩ := o1 0 (Nat.succ_pos _)
  obtain ⟨NY, y1, y2, y3⟩ := o1 1 (Nat.succ_lt_succ (Nat.succ_pos _))
  have x1' : NX < 2 ^ bw w r1 := x1'
  have y1 : NY < 2 ^ bw w r1 := y1
  have x3 : ∀ x, x < bw w r1 → V2 inb wb c B1 (B1.1 122 (32 * hr + x)) (NX.testBit x) := x3
  have y3 : ∀ x, x < bw w r1 → V2 inb wb c B1 (B1.1 122 (32 * (hr + 1) + x)) (NY.testBit x) := y3
  have x2 : act → C1.2 147 hr = lN NX := x2
  have y2 : act → C1.2 147 (hr + 1) = lN NY := y2
  have p2 := p2_bw (w := w) (r := r1) hw1
  have hmw : 8 ≤ o → bw w r1 = w := fun y => by rw [h8 y]; rfl
  have er : (if 6 ≤ o ∧ o ≤ 11 then 1 else bw w r1) = bw w r := by
    rw [hrr]
    split <;> rfl
  refine OU_fin (k := 2) (p := binP w (bw w r1) o (opf (bw w r1) (B1.1 122) (32 * hr)) (opf (bw w r1) (B1.1 122) (32 * (hr + 1)))) (v := bnN w o NX NY % 2 ^ w) hw1 hw hi x1 hb ?_ (by rw [hrr]; exact bn_lt hr1 h8 hoo.2.1 hoo.1 x1' y1) (cWF_imp (fun T f q x hx => ?_) (v_bin (SV_2 hi) hw1 (bw_1 hw1) x1' y1 hoo.2.1 hoo.1 hoo.2.2.1 hoo.2.2.2 hmw (opf_V2 hi x3) (opf_V2 hi y3))) (cm_po (k := hr + 2) (z := 13) hg2 cx.2.2.1 hM hj t1 (by omega) x1.2.1 (fun t => mo_bin (d := d2) hg2 ⟨hw1, hw⟩ (by omega) (by omega) (x1.2.1 t).2.1 (((x1.2.1 t).1.2.1 78 j2 (by omega)).trans t1) (((x1.2.1 t).1.2.1 79 j2 (by omega)).trans t2) (x2 t) (y2 t) (by omega) (by omega) hoo.2.1 hoo.1 hoo.2.2.1 hoo.2.2.2) (fun _ => rfl))
  · obtain ⟨B2, q, g⟩ := mk_1 (l := l) (n := n) (w := w) (d := d) (z := 13) hg cx x1.1.1 x1.1.2.1 hj t1 (by omega) (mo_13 (d := d + 5) hg (by omega) ((x1.1.1.2.1 78 j2 (by omega)).trans t1) (wm_binary (d := d + 5) (T := B1) (q := hr) (o := o) (m := bw w r1) (X := opf (bw w r1) (B1.1 122) (32 * hr)) (Y := opf (bw w r1) (B1.1 122) (32 * (hr + 1))) hg hw hw1 hhr (by omega) hoo ((x1.1.1.2.1 79 j2 (by omega)).trans t2) (by
        rw [x1.1.1.2.1 80 j2 (by omega), t3]
        unfold bw
        by_cases z : r1 = 1
        · rw [if_pos z, if_neg (by rw [z]; decide)]
        · rw [if_neg z, if_pos (by rw [show r1 = 0 by omega]; rfl)]) hmw MEc_rfl x1.1.2.2.1.1 x1.1.2.2.2.1 (opf_vc x1.1.2.2.1 x1.1.2.1 x3) (opf_vc x1.1.2.2.1 x1.1.2.1 y3) (fun x hx => (opf_at hx).symm) (fun x hx => (opf_at hx).symm)))
    refine ⟨B2, g, OPe_d ?_⟩
    rw [hrr, ← bwd_bw h8]
    exact q
  · have bl := bw_le (w := w) (r := r) hw1
    rw [Nat.testBit_mod_two_pow, decide_eq_true (show x < w by omega), Bool.true_and]
    exact q x (by rw [er]; exact hx)
theorem mT_7 {f pl : Int32} (h7 : B.1 73 7 = 0) (hf : ¬ f = 0) : ¬ (mT B f pl).1 73 7 = 0 := by
  unfold mT
  rw [if_pos h7, mF_f.1]
  exact hf
theorem ox_shf (hg : ip_gk (lg_tbl, vwCl, Gr)) (hg2 : ip_gk (lg_tbl, vwCl, Gr2)) (hw1 : 1 ≤ w) (hw : w ≤ 32) (hi : ∀ t, inb t = 0 ∨ inb t = 1) (cx : CTX S T N M) (hb : hrb ≤ hr) (h1 : OU l l2 Gr Gr2 n w d d2 inb wb act Av S T rf cd hrb [0, 0] cs j j2 hr st B C) (hc0 : c → cs 0) (hc1 : cs 1) (hoo : o = 12 ∨ o = 13) (t1 : T.1 78 j2 = 13) (t2 : T.1 79 j2 = nI o) (hj : j2 < M) (hhr : hr + 1 < 4200) : OU l l2 Gr Gr2 n w d d2 inb wb act Av S T rf cd hrb [0] (fun _ => c) j (j2 + 1) hr st B C := by
  have hM := cx.2.2.2
  refine OU_seq h1 (fun B1 C1 st1 x1 o1 => ?_)
  obtain ⟨NX, x1', x2, x3⟩ := o1 0 (Nat.succ_pos _)
  obtain ⟨NY, y1, y2, y3⟩ := o1 1 (Nat.succ_lt_succ (Nat.succ_pos _))
  have x1' : NX < 2 ^ w := x1'
  have y1 : NY < 2 ^ w := y1
  have x3 : ∀ x, x < w → V2 inb wb (cs 0) B1 (B1.1 122 (32 * hr + x)) (NX.testBit x) := x3
  have y3 : ∀ x, x < w → V2 inb wb (cs 1) B1 (B1.1 122 (32 * (hr + 1) + x)) (NY.testBit x) := y3
  have x2 : act → C1.2 147 hr = lN NX := x2
  have y2 : act → C1.2 147 (hr + 1) = lN NY := y2
  obtain ⟨B2, q, g⟩ := mk_1 (l := l) (n := n) (w := w) (d := d) (z := 13) hg cx x1.1.1 x1.1.2.1 hj t1 (by omega) (mo_13 (d := d + 5) hg (by omega) ((x1.1.1.2.1 78 j2 (by omega)).trans t1) (wm_shf (d := d + 5) (q := hr) (o := o) (X := opf w (B1.1 122) (32 * hr)) (Y := opf w (B1.1 122) (32 * (hr + 1))) hg hw hhr (by omega) hoo ((x1.1.1.2.1 79 j2 (by omega)).trans t2) x1.1.2.2.2.1 (fun x hx => (opf_at hx).symm) (fun x hx => (opf_at hx).symm)))
  have en : nvb (xbo (opf w (B1.1 122) (32 * (hr + 1)))) w 0 = NY := nvb_cn (fun x hx => by rw [opf_at hx]; exact (y3 x hx).2 hc1) y1
  rw [en] at q
  by_cases hv : NY < w
  · refine OU_fin (k := 2) (p := cRet (shfF w o NY (opf w (B1.1 122) (32 * hr)))) (v := if o = 12 then NX * 2 ^ NY % 2 ^ w else NX / 2 ^ NY) hw1 hw hi x1 hb ⟨B2, g, OPe_d (q.1 hv)⟩ ?_ (cWF_ret (fun x hx => ?_)) (cm_po (k := hr + 2) (z := 13) hg2 cx.2.2.1 hM hj t1 (by omega) x1.2.1 (fun t => mo_shf (d := d2) hg2 ⟨hw1, hw⟩ (by omega) (by omega) (x1.2.1 t).2.1 (((x1.2.1 t).1.2.1 78 j2 (by omega)).trans t1) (((x1.2.1 t).1.2.1 79 j2 (by omega)).trans t2) (x2 t) (y2 t) x1' (by omega) hoo) (fun _ => rfl))
    · show _ < 2 ^ w
      split
      · exact Nat.mod_lt _ (Nat.two_pow_pos w)
      · exact Nat.lt_of_le_of_lt (Nat.div_le_self _ _) x1'
    · have hx : x < w := hx
      have xx : ∀ y, y < w → V2 inb wb c B1 (opf w (B1.1 122) (32 * hr) y) (NX.testBit y) := fun y hy => by rw [opf_at hy]; exact V2_mo (x3 y hy) hc0
      have fz := (SV_2 (c := c) (wb := wb) hi).2.2.2.2.2 B1
      unfold shfF
      by_cases e12 : o = 12
      · rw [if_pos e12, if_pos e12, Nat.testBit_mod_two_pow, decide_eq_true hx, Bool.true_and, ← Nat.shiftLeft_eq, Nat.testBit_shiftLeft]
        by_cases z : x < NY
        · rw [if_pos z, decide_eq_false (by omega), Bool.false_and]
          exact fz
        · rw [if_neg z, decide_eq_true (by omega), Bool.true_and]
          exact xx _ (by omega)
      · rw [if_neg e12, if_neg e12, Nat.testBit_div_two_pow]
        by_cases z : x + NY < w
        · rw [if_pos z]
          exact xx _ z
        · rw [if_neg z, Nat.testBit_lt_two_pow (Nat.lt_of_lt_of_le x1' (Nat.pow_le_pow_right (by omega) (by omega)))]
          exact fz
  · refine Or.inr ⟨B2, _, g, ?_⟩
    rw [q.2 hv]
    exact mT_7 x1.1.2.1 (by decide)
theorem ox_bit (hg : ip_gk (lg_tbl, vwCl, Gr)) (hg2 : ip_gk (lg_tbl, vwCl, Gr2)) (hw1 : 1 ≤ w) (hw : w ≤ 32) (hi : ∀ t, inb t = 0 ∨ inb t = 1) (cx : CTX S T N M) (hb : hrb ≤ hr) (h1 : OU l l2 Gr Gr2 n w d d2 inb wb act Av S T rf cd hrb [0, 0] cs j j2 hr st B C) (hc0 : c → cs 0) (hc1 : cs 1) (t1 : T.1 78 j2 = 11) (hj : j2 < M) (hhr : hr + 1 < 4200) : OU l l2 Gr Gr2 n w d d2 inb wb act Av S T rf cd hrb [1] (fun _ => c) j (j2 + 1) hr st B C := by
  have hM := cx.2.2.2
  refine OU_seq h1 (fun B1 C1 st1 x1 o1 => ?_)
  obtain ⟨NX, x1', x2, x3⟩ := o1 0 (Nat.succ_pos _)
  obtain ⟨NY, y1, y2, y3⟩ := o1 1 (Nat.succ_lt_succ (Nat.succ_pos _))
  have x1' : NX < 2 ^ w := x1'
  have y1 : NY < 2 ^ w := y1
  have x3 : ∀ x, x < w → V2 inb wb (cs 0) B1 (B1.1 122 (32 * hr + x)) (NX.testBit x) := x3
  have y3 : ∀ x, x < w → V2 inb wb (cs 1) B1 (B1.1 122 (32 * (hr + 1) + x)) (NY.testBit x) := y3
  have x2 : act → C1.2 147 hr = lN NX := x2
  have y2 : act → C1.2 147 (hr + 1) = lN NY := y2
  have h32 : 2 ^ w ≤ 2 ^ 32 := Nat.pow_le_pow_right (by omega) hw
  obtain ⟨B2, q, g⟩ := mk_1 (l := l) (n := n) (w := w) (d := d) (z := 11) hg cx x1.1.1 x1.1.2.1 hj t1 (by omega) (mo_11 (d := d + 5) (hr := hr) (X := opf w (B1.1 122) (32 * hr)) (Y := opf w (B1.1 122) (32 * (hr + 1))) hg hw hhr (by omega) ((x1.1.1.2.1 78 j2 (by omega)).trans t1) x1.1.2.2.2.1 (fun x hx => (opf_at hx).symm) (fun x hx => (opf_at hx).symm))
  have en : nvb (xbo (opf w (B1.1 122) (32 * (hr + 1)))) w 0 = NY := nvb_cn (fun x hx => by rw [opf_at hx]; exact (y3 x hx).2 hc1) y1
  rw [en] at q
  by_cases hv : NY < w
  · refine OU_fin (k := 2) (p := cRet (fun _ => opf w (B1.1 122) (32 * hr) NY)) (v := NX / 2 ^ NY % 2) hw1 hw hi x1 hb ⟨B2, g, OPe_d (q.1 hv)⟩ (Nat.mod_lt _ (by omega)) (cWF_ret (fun x hx => ?_)) (cm_po (k := hr + 2) (z := 11) hg2 cx.2.2.1 hM hj t1 (by omega) x1.2.1 (fun t => mo_bitw (d := d2 + 1) (by omega) (by omega) (x1.2.1 t).2.1 (((x1.2.1 t).1.2.1 78 j2 (by omega)).trans t1) (x2 t) (y2 t) (by omega) (by omega)) (fun _ => rfl))
    have hx : x < 1 := hx
    have ex : x = 0 := by omega
    subst ex
    have eb : (NX / 2 ^ NY % 2).testBit 0 = NX.testBit NY := by
      rw [show (2 : Nat) = 2 ^ 1 from rfl, Nat.testBit_mod_two_pow, decide_eq_true (by omega), Bool.true_and, show (2 ^ 1) ^ NY = 2 ^ NY from rfl, Nat.testBit_div_two_pow, Nat.zero_add]
    rw [eb]
    show V2 inb wb c B1 (opf w (B1.1 122) (32 * hr) NY) (NX.testBit NY)
    rw [opf_at hv]
    exact V2_mo (x3 NY hv) hc0
  · refine Or.inr ⟨B2, _, g, ?_⟩
    rw [q.2 hv]
    exact mT_7 x1.1.2.1 (by decide)
theorem ox_sel (hg : ip_gk (lg_tbl, vwCl, Gr)) (hg2 : ip_gk (lg_tbl, vwCl, Gr2)) (hw1 : 1 ≤ w) (hw : w ≤ 32) (hi : ∀ t, inb t = 0 ∨ inb t = 1) (cx : CTX S T N M) (hb : hrb ≤ hr) (h1 : OU l l2 Gr Gr2 n w d d2 inb wb act Av S T rf cd hrb [1, r, r] (fun _ => c) j j2 hr st B C) (hr1 : r ≤ 1) (t1 : T.1 78 j2 = 14) (t3 : T.1 80 j2 = nI r) (hj : j2 < M) (hhr : hr + 2 < 4200) : OU l l2 Gr Gr2 n w d d2 inb wb act Av S T rf cd hrb [r] (fun _ => c) j (j2 + 1) hr st B C := by
  have hM := cx.2.2.2
  refine OU_seq h1 (fun B1 C1 st1 x1 o1 => ?_)
  obtain ⟨NC, c1', c2, c3⟩ := o1 0 (Nat.succ_pos _)
  obtain ⟨NX, x1', x2, x3⟩ := o1 1 (Nat.succ_lt_succ (Nat.succ_pos _))
  obtain ⟨NY, y1, y2, y3⟩ := o1 2 (Nat.succ_lt_succ (Nat.succ_lt_succ (Nat.succ_pos _)))
  have c1' : NC < 2 ^ 1 := c1'
  have x1' : NX < 2 ^ bw w r := x1'
  have y1 : NY < 2 ^ bw w r := y1
  have c3 : V2 inb wb c B1 (B1.1 122 (32 * hr)) (NC.testBit 0) := c3 0 (by show 0 < 1; omega)
  have x3 : ∀ x, x < bw w r → V2 inb wb c B1 (B1.1 122 (32 * (hr + 1) + x)) (NX.testBit x) := x3
  have y3 : ∀ x, x < bw w r → V2 inb wb c B1 (B1.1 122 (32 * (hr + 2) + x)) (NY.testBit x) := y3
  have c2 : act → C1.2 147 hr = lN NC := c2
  have x2 : act → C1.2 147 (hr + 1) = lN NX := x2
  have y2 : act → C1.2 147 (hr + 2) = lN NY := y2
  have tb : NC.testBit 0 = decide (NC = 1) := by
    have : NC = 0 ∨ NC = 1 := by omega
    rcases this with e | e <;> subst e <;> rfl
  refine OU_fin (k := 3) (p := selP (bw w r) (B1.1 122 (32 * hr)) (opf (bw w r) (B1.1 122) (32 * (hr + 1))) (opf (bw w r) (B1.1 122) (32 * (hr + 2)))) (v := if NC = 1 then NX else NY) hw1 hw hi x1 hb ?_ (by split <;> assumption) (cWF_imp (fun T f q x hx => ?_) (v_sel (SV_2 hi) c3 (opf_V2 hi x3) (opf_V2 hi y3))) (cm_po (k := hr + 3) (z := 14) hg2 cx.2.2.1 hM hj t1 (by omega) x1.2.1 (fun t => mo_sel (d := d2 + 1) (NX := NC) (by omega) (by omega) (x1.2.1 t).2.1 (((x1.2.1 t).1.2.1 78 j2 (by omega)).trans t1) (c2 t) (by omega)) (fun t => ?_))
  · obtain ⟨B2, q, g⟩ := mk_1 (l := l) (n := n) (w := w) (d := d) (z := 14) hg cx x1.1.1 x1.1.2.1 hj t1 (by omega) (mo_14 (d := d + 5) (q := hr) (r := r) (m := bw w r) (c := B1.1 122 (32 * hr)) (X := opf (bw w r) (B1.1 122) (32 * (hr + 1))) (Y := opf (bw w r) (B1.1 122) (32 * (hr + 2))) hg hw hw1 hhr (by omega) ((x1.1.1.2.1 78 j2 (by omega)).trans t1) hr1 rfl ((x1.1.1.2.1 80 j2 (by omega)).trans t3) x1.1.2.2.2.1 x1.1.2.2.1.1 (c3.1 x1.1.2.1 x1.1.2.2.1.2.1 x1.1.2.2.1.2.2.1).1 (opf_vc x1.1.2.2.1 x1.1.2.1 x3) (opf_vc x1.1.2.2.1 x1.1.2.1 y3) rfl (fun x hx => (opf_at hx).symm) (fun x hx => (opf_at hx).symm))
    exact ⟨B2, g, OPe_d q⟩
  · have := q x hx
    rw [tb] at this
    by_cases z : NC = 1
    · rw [if_pos z]
      rw [decide_eq_true z, if_pos rfl] at this
      exact this
    · rw [if_neg z]
      rw [decide_eq_false z, if_neg (by decide)] at this
      exact this
  · by_cases z : NC = 1
    · rw [if_pos z, if_pos z]
      exact x2 t
    · rw [if_neg z, if_neg z]
      exact y2 t
end NOE
