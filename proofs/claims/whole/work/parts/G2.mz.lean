/-! mean() beside build: elements, calls -/
section NOF
variable {l l2 : Launch} {Gr Gr2 : zG} {n w d d2 : Nat} {inb : Nat → Nat} {wb : Nat} {act c c1 : Prop} {Av Av' : Nat → Nat → Prop} {S T B B' C C' X : zS} {rf cd hrb hr st i i' j j' j1 j2 j3 jb' r r1 k z N M v o D e a m q h pb : Nat} {os : List Nat} {cs : Nat → Prop} {u : Int64}
/-- the elements' literals and values -/
theorem el_val (hw1 : 1 ≤ w) (hw : w ≤ 32) (av : AvO S Av cd) (h0 : MXS inb wb w act Av S T rf cd hrb hr st B C) (ra : RFA D Av S T e j1 k r z a) (hz : 0 < z) (hj : j1 < 12000) : a + z ≤ 256 ∧ ∃ (f : Nat → Nat → Int32) (vf : Nat → Nat), (∀ (dd y x : Nat) (B' : zS), y < z → x < bw w r → (∀ c u, c = 102 ∨ c = 103 ∨ c = 117 ∨ c = 132 → B'.1 c u = B.1 c u) → zMi l Gr (zc n w) 168 M_Mo_elementBit dd [.ref 105, .int (nI j1), .int (nI y), .int (nI x)] B' (fun v B'' => v = f y x ∧ B'' = B')) ∧ ∀ y, y < z → vf y < 2 ^ bw w r ∧ (act → (if C.1 102 j1 = 1 then inW C (a + y) else C.2 148 (a + y)) = lN (vf y)) ∧ ∀ x, x < bw w r → Vk inb wb B (f y x) ((vf y).testBit x) := by
  obtain ⟨q1, q2, q3, q4, q5, q6, q7, q8, q9, q10, q11, q12, q13, q14⟩ := ra
  have E := h0.2.2.2 e a r z q6 q3 q4 q8 q9
  have b1 := bw_le (w := w) (r := r) hw1
  have hk : k = 0 ∨ k = 1 := by
    rcases (av e a q6).2.1 with y | y | y
    · exact Or.inl ((nI_eq (b := 0) (by omega) (by omega)).mp (q7.symm.trans y))
    · exact Or.inr ((nI_eq (b := 1) (by omega) (by omega)).mp (q7.symm.trans y))
    · exact absurd ((nI_eq (b := 0) (by omega) (by omega)).mp (q9.symm.trans y)) (by omega)
  have em : max 1 z = z := by omega
  rcases hk with e0 | e0 <;> subst e0
  · obtain ⟨ha, E⟩ := E.1 q7
    rw [em] at ha E
    obtain ⟨vf, hv⟩ := Classical.axiomOfChoice (r := fun y v => y < z → v < 2 ^ bw w r ∧ (act → inW C (a + y) = lN v) ∧ ∀ x, x < bw w r → Vk inb wb B (2 * (B.1 117 (a + y) + nI x)) (v.testBit x)) (fun y => by
      by_cases hy : y < z
      · obtain ⟨v, hv⟩ := E y hy
        exact ⟨v, fun _ => hv⟩
      · exact ⟨0, fun q => absurd q hy⟩)
    refine ⟨ha, fun y x => 2 * (B.1 117 (a + y) + nI x), vf, fun dd y x B' hy hx hf => ?_, fun y hy => ⟨(hv y hy).1, fun t => ?_, (hv y hy).2.2⟩⟩
    · have := wm_el0 (l := l) (Gr := Gr) (n := n) (w := w) (d := dd) (B := B') (j := j1) (a := a) (k := y) (x := x) hj (by rw [hf 102 j1 (by omega), h0.1.1.2.1 102 j1 (by omega)]; exact q11) (by rw [hf 103 j1 (by omega), h0.1.1.2.1 103 j1 (by omega)]; exact q12) (by omega)
      rw [hf 117 _ (by omega)] at this
      exact this
    · rw [if_pos (show C.1 102 j1 = 1 from ((h0.2.1 t).1.2.1 102 j1 (by omega)).trans q11)]
      exact (hv y hy).2.1 t
  · obtain ⟨ha, E⟩ := E.2.1 q7
    rw [em] at ha E
    obtain ⟨vf, hv⟩ := Classical.axiomOfChoice (r := fun y v => y < z → v < 2 ^ bw w r ∧ (act → C.2 148 (a + y) = lN v) ∧ ∀ x, x < bw w r → Vk inb wb B (B.1 132 (32 * (a + y) + x)) (v.testBit x)) (fun y => by
      by_cases hy : y < z
      · obtain ⟨v, hv⟩ := E y hy
        exact ⟨v, fun _ => hv⟩
      · exact ⟨0, fun q => absurd q hy⟩)
    refine ⟨ha, fun y x => B.1 132 (32 * (a + y) + x), vf, fun dd y x B' hy hx hf => ?_, fun y hy => ⟨(hv y hy).1, fun t => ?_, (hv y hy).2.2⟩⟩
    · have := wm_el1 (l := l) (Gr := Gr) (n := n) (w := w) (d := dd) (B := B') (j := j1) (a := a) (k := y) (x := x) hj (by rw [hf 102 j1 (by omega), h0.1.1.2.1 102 j1 (by omega), q11]; decide) (by rw [hf 103 j1 (by omega), h0.1.1.2.1 103 j1 (by omega)]; exact q12) (by omega) (by omega)
      rw [hf 132 _ (by omega)] at this
      exact this
    · rw [if_neg (by rw [(h0.2.1 t).1.2.1 102 j1 (by omega), q11]; decide)]
      exact (hv y hy).2.1 t
theorem ox_elt (hg : ip_gk (lg_tbl, vwCl, Gr)) (hg2 : ip_gk (lg_tbl, vwCl, Gr2)) (hw1 : 1 ≤ w) (hw : w ≤ 32) (hi : ∀ t, inb t = 0 ∨ inb t = 1) (cx : CTX S T N M) (hb : hrb ≤ hr) (av : AvO S Av cd) (h1 : OU l l2 Gr Gr2 n w d d2 inb wb act Av S T rf cd hrb [0] (fun _ => c1) j j1 hr st B C) (ra : RFA D Av S T e j1 k r z a) (hz : 0 < z) (hpb : pb ≤ 1) (hc1 : pb = 1 → c1) (hc : ¬ c) (t1 : T.1 78 j1 = 7) (t7 : T.1 107 j1 = nI pb) (hj : j1 < M) (hhr : hr < 4200) : OU l l2 Gr Gr2 n w d d2 inb wb act Av S T rf cd hrb [r] (fun _ => c) j (j1 + 1) hr st B C := by
  have hM := cx.2.2.2
  refine OU_seq h1 (fun B1 C1 st1 x1 o1 => ?_)
  obtain ⟨NX, x1', x2, x3⟩ := o1 0 (Nat.succ_pos _)
  have x1' : NX < 2 ^ w := x1'
  have x3 : ∀ x, x < w → V2 inb wb c1 B1 (B1.1 122 (32 * hr + x)) (NX.testBit x) := x3
  have x2 : act → C1.2 147 hr = lN NX := x2
  have h32 : 2 ^ w ≤ 2 ^ 32 := Nat.pow_le_pow_right (by omega) hw
  obtain ⟨ha, f, vf, ef, hv⟩ := el_val (l := l) (Gr := Gr) (n := n) hw1 hw av x1 ra hz (by omega)
  obtain ⟨q1, q2, q3, q4, q5, q6, q7, q8, q9, q10, q11, q12, q13, q14⟩ := ra
  have hj2 : j1 < 12000 := by omega
  have VF : ∀ y x, y < z → x < bw w r → V2 inb wb c B1 (f y x) ((vf y).testBit x) := fun y x hy hx => ⟨(hv y hy).2.2 x hx, fun q => absurd q hc⟩
  have vL : ∀ y x, y < z → x < bw w r → VC B1 (f y x) := fun y x hy hx => ((hv y hy).2.2 x hx x1.1.2.1 x1.1.2.2.1.2.1 x1.1.2.2.1.2.2.1).1
  have vok : (if NX < z then vf NX else 0) < 2 ^ bw w r := by
    split
    · rename_i y
      exact (hv NX y).1
    · exact Nat.two_pow_pos _
  have cm : ∃ C2, act → NGo l2 Gr2 n w d2 C1 j1 C2 (j1 + 1) ∧ FC hr cd C1 C2 ∧ C2.1 73 115 = nI (hr + 1) ∧ C2.1 73 110 = C1.1 73 110 ∧ C2.2 147 hr = lN (if NX < z then vf NX else 0) := by
    refine cm_any (k := hr + 1) (z := 7) (X := mPu (zi C1 73 115 (nI hr)) hr (if NX < z then (if C1.1 102 j1 = 1 then inW C1 (a + NX) else C1.2 148 (a + NX)) else 0)) hg2 cx.2.2.1 hM hj t1 (by omega) x1.2.1 (fun t => mo_elt (d := d2 + 1) hg2 hj2 hhr (x1.2.1 t).2.1 (((x1.2.1 t).1.2.1 78 j1 (by omega)).trans t1) (x2 t) (by omega) (((x1.2.1 t).1.2.1 104 j1 (by omega)).trans q13) (by omega) (((x1.2.1 t).1.2.1 103 j1 (by omega)).trans q12) ha) (fun t => ⟨?_, by unfold mPu; exact zi_v, ?_, ?_⟩)
    · refine FC_tr (C1 := zi C1 73 115 (nI hr)) ⟨fun c k y1 y2 => by rw [zi_get, if_neg (by omega)], fun _ _ _ => rfl⟩ FC_pu (Nat.le_refl _)
    · unfold mPu
      rw [zi_k (by decide)]
      show (zi C1 73 115 (nI hr)).1 73 110 = _
      rw [zi_k (by decide)]
    · unfold mPu
      show (zj (zi C1 73 115 (nI hr)) 147 hr _).2 147 hr = _
      rw [zj_get, if_pos ⟨rfl, rfl⟩]
      by_cases y : NX < z
      · rw [if_pos y, if_pos y]
        exact (hv NX y).2.1 t
      · rw [if_neg y, if_neg y]
        rfl
  have pbm : nI pb = 0 ↔ pb = 0 := nI_eq (b := 0) (by omega) (by omega)
  have fz := (SV_2 (c := c) (wb := wb) hi).2.2.2.2.2
  by_cases h0p : pb = 0
  · refine OU_fin (k := 1) (p := eltP w (bw w r) (opf w (B1.1 122) (32 * hr)) (Lf z (bw w r) f) z 0 (fun _ => -2)) (v := if NX < z then vf NX else 0) hw1 hw hi x1 hb ?_ vok (cWF_imp (fun T g q x hx => ?_) (v_elt (lb := fun y x => (vf y).testBit x) (m := bw w r) (SV_2 hi) hw1 x1' z 0 (fun _ => -2) (fun _ => false) B1 (fun x hx => V2_mo (opf_V2 hi x3 x hx) (fun q => absurd q hc)) (fun y x _ hy hx => by rw [Lf_at (by omega) hx]; exact VF y x (by omega) hx) (fun x _ => fz B1))) cm
    · obtain ⟨B2, qb, gb⟩ := mk_1 (l := l) (n := n) (w := w) (d := d) (z := 7) hg cx x1.1.1 x1.1.2.1 hj t1 (by omega) (mo_7 (d := d + 5) hg hj2 ((x1.1.1.2.1 78 j1 (by omega)).trans t1) (wm_idxN (d := d + 5) (q := hr) (r := r) (z := z) (m := bw w r) (X := opf w (B1.1 122) (32 * hr)) (L := Lf z (bw w r) f) hg hw hw1 hhr hj2 q3 rfl q4 ((x1.1.1.2.1 104 j1 (by omega)).trans q13) ((x1.1.1.2.1 105 j1 (by omega)).trans q14) (by rw [x1.1.1.2.1 107 j1 (by omega), t7]; exact pbm.mpr h0p) x1.1.2.2.2.1 x1.1.2.2.1.1 (opf_vc x1.1.2.2.1 x1.1.2.1 x3) (fun y x => Lf_VC vL y x) (fun x hx => (opf_at hx).symm) (fun y x B' hy hx hF => by
        rw [Lf_at hy hx]
        exact ef _ y x B' hy hx (fun c u z => hF.1 c u (by omega) (by omega) (by unfold PUe; omega)))))
      exact ⟨B2, gb, qb⟩
    · have := q x hx
      rw [Bool.false_xor] at this
      by_cases y : NX < z
      · rw [if_pos y]
        rw [if_pos ⟨Nat.zero_le _, by omega⟩] at this
        exact this
      · rw [if_neg y, Nat.zero_testBit]
        rw [if_neg (by omega)] at this
        exact this
  · have en : nvb (xbo (opf w (B1.1 122) (32 * hr))) w 0 = NX := nvb_cn (fun x hx => by rw [opf_at hx]; exact (x3 x hx).2 (hc1 (by omega))) x1'
    obtain ⟨B2, qb, gb⟩ := mk_1 (l := l) (n := n) (w := w) (d := d) (z := 7) hg cx x1.1.1 x1.1.2.1 hj t1 (by omega) (mo_7 (d := d + 5) hg hj2 ((x1.1.1.2.1 78 j1 (by omega)).trans t1) (wm_idxP (d := d + 5) (q := hr) (r := r) (z := z) (m := bw w r) (X := opf w (B1.1 122) (32 * hr)) (F := Lf z (bw w r) f NX) hg hw hw1 hhr hj2 q3 rfl q4 ((x1.1.1.2.1 104 j1 (by omega)).trans q13) ((x1.1.1.2.1 105 j1 (by omega)).trans q14) (by rw [x1.1.1.2.1 107 j1 (by omega), t7]; exact fun y => h0p (pbm.mp y)) x1.1.2.2.2.1 (fun x hx => (opf_at hx).symm) (fun x B' hv hx hF => by
      rw [en] at hv ⊢
      rw [Lf_at hv hx]
      exact ef _ _ x B' hv hx (fun c u z => hF.1 c u (by omega) (by omega) (by unfold PUe; omega)))))
    rw [en] at qb
    by_cases hvz : NX < z
    · refine OU_fin (k := 1) (p := cRet (Lf z (bw w r) f NX)) (v := if NX < z then vf NX else 0) hw1 hw hi x1 hb ⟨B2, gb, qb.1 hvz⟩ vok (cWF_ret (fun x hx => ?_)) cm
      rw [if_pos hvz, Lf_at hvz hx]
      exact VF NX x hvz hx
    · refine Or.inr ⟨B2, _, gb, ?_⟩
      rw [qb.2 hvz]
      exact mT_7 x1.1.2.1 (by decide)
/-- a def's NAMEs, in a call -/
theorem ox_cal (hg : ip_gk (lg_tbl, vwCl, Gr)) (hg2 : ip_gk (lg_tbl, vwCl, Gr2)) (hw1 : 1 ≤ w) (hw : w ≤ 32) (hi : ∀ t, inb t = 0 ∨ inb t = 1) (cx : CTX S T N M) (hb : hrb ≤ hr) (h1 : OU l l2 Gr Gr2 n w d d2 inb wb act Av S T rf cd hrb os cs j j1 hr st B C) (hc : ¬ c) (ha : a < 12000) (t103 : T.1 103 j1 = nI a) (hA : ∀ e' a', Av' e' a' → S.1 11 e' = 4 ∨ ∃ c, c < os.length ∧ e' = e + 1 + c ∧ a' = c) (hps : ∀ c, c < os.length → S.1 11 (e + 1 + c) = 3 ∧ S.1 12 (e + 1 + c) = nI (os.getD c 0) ∧ os.getD c 0 ≤ 1) (t1 : T.1 78 j1 = 9) (t80 : T.1 80 a = nI os.length) (t2 : T.1 78 jb' = 29) (hj : j1 < M) (hjb : jb' < M) (hcd : cd < 285) (hhr : hr + os.length < 4200) (hbody : ∀ B' C' st', MXS inb wb w act Av' S T hr (cd + 1) (hr + os.length) (hr + os.length) st' B' C' → OU l l2 Gr Gr2 n w d d2 inb wb act Av' S T hr (cd + 1) (hr + os.length) [r] (fun _ => c1) (a + os.length + 2) jb' (hr + os.length) st' B' C') : OU l l2 Gr Gr2 n w d d2 inb wb act Av S T rf cd hrb [r] (fun _ => c) j (j1 + 1) hr st B C := by
  have hM := cx.2.2.2
  refine OU_seq h1 (fun B1 C1 st1 x1 o1 => ?_)
  obtain ⟨hB, hC, hh, hN⟩ := x1
  have mcal : MGo l Gr n w d B1 j1 (mCal B1 cd hr j1) (a + os.length + 2) := mg_o (z := 9) hg hj hM (hB.1.1.trans cx.2.2.1) hB.2.1 ((hB.1.2.1 78 j1 (by omega)).trans t1) (by omega) (mo_9 (d := d + 5) (a := a) (m := os.length) (q := hr) (cd := cd) (by omega) ha ((hB.1.2.1 78 j1 (by omega)).trans t1) ((hB.1.2.1 103 j1 (by omega)).trans t103) ((hB.1.2.1 80 a (by omega)).trans t80) hB.2.2.2.2.2.2.1 (by omega) hB.2.2.2.1 hg)
  have ncal : act → NGo l2 Gr2 n w d2 C1 j1 (mCal C1 cd hr j1) (a + os.length + 2) := fun t => by
    have hC := hC t
    have := mo_call (l := l2) (Gr := Gr2) (n := n) (w := w) (d := d2 + 1) (h := hr + os.length) (m := os.length) (f := cd) (a := a) hg2 (by omega) ((hC.1.2.1 78 j1 (by omega)).trans t1) ((hC.1.2.1 103 j1 (by omega)).trans t103) ha ((hC.1.2.1 80 a (by omega)).trans t80) (by omega) (by omega) hC.2.1 (by omega) hC.2.2.1
    unfold mCl at this
    rw [show hr + os.length - os.length = hr by omega] at this
    exact ng_o (z := 9) hg2 hj hM (hC.1.1.trans cx.2.2.1) ((hC.1.2.1 78 j1 (by omega)).trans t1) (by omega) this
  have M1 : MEc B1 (mCal B1 cd hr j1) := ⟨fun k q => mCal_n (by omega) (by omega), fun c k q => mCal_n (by omega) (by omega)⟩
  have ex1 : Exk B1 (mCal B1 cd hr j1) := Or.inr (Gw_E (Gd_n hB.2.2.1) M1)
  have xc : MXS inb wb w act Av' S T hr (cd + 1) (hr + os.length) (hr + os.length) st1 (mCal B1 cd hr j1) (mCal C1 cd hr j1) := by
    refine ⟨⟨⟨(mCal_n (by omega) (by omega)).trans hB.1.1, fun c k q => (mCal_n (by omega) (by omega)).trans (hB.1.2.1 c k q), hB.1.2.2⟩, (mCal_n (by omega) (by omega)).trans hB.2.1, Gd_E M1 hB.2.2.1, (mCal_n (by omega) (by omega)).trans hB.2.2.2.1, (mCal_n (by omega) (by omega)).trans hB.2.2.2.2.1, hB.2.2.2.2.2.1, zi_v, fun _ => ?_⟩, fun t => ⟨⟨(mCal_n (by omega) (by omega)).trans (hC t).1.1, fun c k q => (mCal_n (by omega) (by omega)).trans ((hC t).1.2.1 c k q), (hC t).1.2.2⟩, (mCal_n (by omega) (by omega)).trans (hC t).2.1, zi_v, fun _ => ?_⟩, Nat.le_refl _, fun e' a' r' z' y1 y2 y3 y4 y5 => ?_⟩
    · unfold mCal
      rw [Nat.add_sub_cancel, zi_c (by decide), zi_c (by decide)]
      exact zi_v
    · unfold mCal
      rw [Nat.add_sub_cancel, zi_c (by decide), zi_c (by decide)]
      exact zi_v
    · rcases hA e' a' y1 with y | ⟨cc, hcc, ee, ea⟩
      · exact ⟨fun q => absurd (y.symm.trans q) (by decide), fun q => absurd (y.symm.trans q) (by decide), fun q => absurd (y.symm.trans q) (by decide), fun q => absurd (y.symm.trans q) (by decide)⟩
      · obtain ⟨p1, p2, p3⟩ := hps cc hcc
        rw [← ee] at p1 p2
        have er : r' = os.getD cc 0 := (nI_eq (by omega) (by omega)).mp (y4.symm.trans p2)
        refine ⟨fun q => absurd (p1.symm.trans q) (by decide), fun q => absurd (p1.symm.trans q) (by decide), fun q => absurd (p1.symm.trans q) (by decide), fun _ => ⟨by omega, ?_⟩⟩
        obtain ⟨v, v1, v2, v3⟩ := o1 cc hcc
        refine ⟨v, by rw [er]; exact v1, fun t => by rw [ea]; exact v2 t, fun x hx => ?_⟩
        rw [mCal_n (by omega) (by omega), ea]
        exact Vk_x hi ex1 (v3 x (by rw [← er]; exact hx)).1
  rcases hbody _ _ st1 xc with ⟨B3, C3, st3, s3, m3, n3, f3, e3, x3, o3⟩ | ⟨B3, j3, m3, z3⟩
  rotate_left
  · exact Or.inr ⟨B3, j3, MGo_tr mcal m3, z3⟩
  have c144 : ∀ c, c = 144 ∨ c = 145 → B3.1 c cd = (mCal B1 cd hr j1).1 c cd := fun c h => f3.1 c cd (by omega) (by omega) (by unfold PXm; omega)
  obtain ⟨u, B4, ⟨eu, M4, G4, h85, h110, h122⟩, r4⟩ := zMi_det (ms_29 (l := l) (Gr := Gr) (n := n) (w := w) (d := d + 5) (B := B3) (j := jb') (cd := cd) (q := hr) (p := hr + os.length) (jr := j1 + 1) (by omega) ((x3.1.1.2.1 78 jb' (by omega)).trans t2) x3.1.2.2.2.2.2.2.1 (by omega) (by
    rw [c144 144 (Or.inl rfl)]
    unfold mCal
    rw [zi_c (by decide), zi_c (by decide)]
    exact zi_v) (by
    rw [c144 145 (Or.inr rfl)]
    unfold mCal
    rw [zi_c (by decide)]
    exact zi_v) x3.1.2.2.2.1 (by omega) hhr)
  subst eu
  have n4 : MGo l Gr n w d B3 jb' B4 (j1 + 1) := mg_s (z := 29) hg hjb hM (x3.1.1.1.trans cx.2.2.1) x3.1.2.1 ((x3.1.1.2.1 78 jb' (by omega)).trans t2) (by omega) (by omega) r4
  have e14 : FM (PXm hr cd) B1 B4 := by
    refine ⟨fun c k q1 q2 q3 => ?_, fun c k => by rw [G4.2 c k, f3.2 c k]; rfl⟩
    unfold PXm at q3
    by_cases z110 : c = 73 ∧ k = 110
    · rw [z110.1, z110.2, h110]
      exact hB.2.2.2.2.2.2.1.symm
    · rw [G4.1 c k (by omega) (by omega) (by omega), f3.1 c k (by omega) (by omega) (by unfold PXm; omega), mCal_n (by omega) (by omega)]
  have ex4 : Exk B3 B4 := Or.inr (Gw_E (Gd_n x3.1.2.2.1) M4)
  have ex14 : Exk B1 B4 := Ex_tr ex1 (Ex_tr e3 ex4)
  obtain ⟨v, v1, v2, v3⟩ := o3 0 (Nat.succ_pos _)
  have v1 : v < 2 ^ bw w r := v1
  have v2 : act → C3.2 147 (hr + os.length) = lN v := v2
  have v3 : ∀ x, x < bw w r → V2 inb wb c1 B3 (B3.1 122 (32 * (hr + os.length) + x)) (v.testBit x) := v3
  have d144 : ∀ c, act → c = 144 ∨ c = 145 → C3.1 c cd = (mCal C1 cd hr j1).1 c cd := fun c t h => (n3 t).2.1 c cd (by omega) (by omega)
  have cend : act → NGo l2 Gr2 n w d2 C3 jb' (zi (zj (zi C3 73 110 (nI cd)) 147 hr (C3.2 147 (hr + os.length))) 73 115 (nI (hr + 1))) (j1 + 1) := fun t => by
    have hC3 := x3.2.1 t
    exact ng_s (z := 29) hg2 hjb hM (hC3.1.1.trans cx.2.2.1) ((hC3.1.2.1 78 jb' (by omega)).trans t2) (by omega) (by omega) (mt_dend (f := cd) (h := hr + os.length) (k := hr) (by omega) ((hC3.1.2.1 78 jb' (by omega)).trans t2) (by omega) hC3.2.2.1 hC3.2.1 hhr (by
      rw [d144 144 t (Or.inl rfl)]
      unfold mCal
      rw [zi_c (by decide), zi_c (by decide)]
      exact zi_v) (by omega) (by
      rw [d144 145 t (Or.inr rfl)]
      unfold mCal
      rw [zi_c (by decide)]
      exact zi_v))
  have fc : act → FC hr cd C1 (zi (zj (zi C3 73 110 (nI cd)) 147 hr (C3.2 147 (hr + os.length))) 73 115 (nI (hr + 1))) := fun t => by
    obtain ⟨f1, f2⟩ := (n3 t).2
    refine ⟨fun c k q1 q2 => ?_, fun c k q => ?_⟩
    · rw [zi_get, if_neg (by omega)]
      show (zi C3 73 110 (nI cd)).1 c k = _
      rw [zi_get, if_neg (by omega), f1 c k (by omega) (by omega), mCal_n (by omega) (by omega)]
    · show (zj (zi C3 73 110 (nI cd)) 147 hr (C3.2 147 (hr + os.length))).2 c k = _
      rw [zj_get, if_neg (by omega)]
      show C3.2 c k = _
      rw [f2 c k (by omega)]
      rfl
  refine Or.inl ⟨B4, _, st3, s3, MGo_tr mcal (MGo_tr m3 n4), fun t => ⟨NGo_tr (ncal t) (NGo_tr (n3 t).1 (cend t)), fc t⟩, e14, ex14, ⟨MB_k hB e14 (by rw [M4.1 7 (by omega)]; exact x3.1.2.1) (Gd_E M4 x3.1.2.2.1) h85 (by rw [G4.1 73 70 (by omega) (by omega) (by omega)]; exact x3.1.2.2.2.2.1) x3.1.2.2.2.2.2.1, fun t => MN_k (hC t) (fc t) zi_v ?_, by show hrb ≤ hr + 1; omega, NV_k hw1 hw hi hN e14 ex14 fc hb hb⟩, fun t ht => ?_⟩
  · rw [zi_k (by decide)]
    show (zi C3 73 110 (nI cd)).1 73 110 = _
    exact zi_v
  · have e : t = 0 := by
      have : t < 1 := ht
      omega
    subst e
    refine ⟨v, v1, fun t => ?_, fun x hx => ⟨?_, fun q => absurd q hc⟩⟩
    · show (zj (zi C3 73 110 (nI cd)) 147 hr (C3.2 147 (hr + os.length))).2 147 (hr + 0) = _
      rw [zj_get, if_pos ⟨rfl, rfl⟩]
      exact v2 t
    · have hx : x < bw w r := hx
      have bl := bw_le (w := w) (r := r) hw1
      show Vk inb wb B4 (B4.1 122 (32 * hr + x)) _
      rw [h122 x (by omega)]
      exact Vk_x hi ex4 (v3 x hx).1
end NOF
