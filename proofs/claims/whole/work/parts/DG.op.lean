/-! BUILD on both sides: signs, operators, ? :, int( ), ( ) -/
/-- the operand's bits -/
def opf (m : Nat) (f : Nat → Int32) (b : Nat) : Nat → Int32 := fun j => if j < m then f (b + j) else -2
section XOP
variable {l : Launch} {Gr : zG} {n w : Nat} {d : Nat} {Av : Nat → Nat → Prop} {S S' T A A' A1 A2 B B' B0 B1 B2 : zS} {cf rf cd hb hrb i i' hc hr st r ex i1 i2 i3 j j' j1 j2 j3 N M z e D a m o r1 : Nat} {os : List Nat} {p : CP (Nat → Int32)} {F F' O : Nat → Int32} {R : zS → Prop}
theorem opf_eq (hw1 : 1 ≤ w) (h : OA w r hc hr A B) : opf (bw w r) (A.1 57) (hc * w) = opf (bw w r) (B.1 122) (32 * hr) := by
  funext j
  unfold opf
  split
  · rename_i hj
    exact (h j hj).1
  · rfl
theorem opf_VC (h : OA w r hc hr A B) (j : Nat) : VC B (opf (bw w r) (B.1 122) (32 * hr) j) := by
  unfold opf
  split
  · rename_i hj
    exact (h j hj).2
  · exact VC_c2
theorem opf_at {f : Nat → Int32} {b : Nat} {x : Nat} (h : x < m) : opf m f b x = f (b + x) := if_pos h
theorem VC_CNl {x : Int32} (h : VC B x) : CNl x := h.2
theorem hcs {u : Nat} (h : hc + u + 1 ≤ 9682) : (hc + u) * w + w ≤ 9682 * w := by rw [← Nat.succ_mul]; exact Nat.mul_le_mul_right _ h
theorem hc2 : (hc + 1) * w = hc * w + w := Nat.succ_mul _ _
theorem hc3 : (hc + 2) * w = hc * w + w + w := by rw [Nat.succ_mul, Nat.succ_mul]
theorem hc4 : (hc + 3) * w = hc * w + w + w + w := by rw [Nat.succ_mul, Nat.succ_mul, Nat.succ_mul]
theorem ur_s (h : 34 ≤ S.1 4 i1 ∧ S.1 4 i1 ≤ 36) : ur S (i1 + 1) = ur S i1 + 1 := if_pos h
theorem lx_una (hg : ip_gk (lg_tbl, vwCl, Gr)) (ho : ip_old (lg_tbl, vwCl, Gr)) (hw1 : 1 ≤ w) (hw : w ≤ 32) (cx : CTX S T N M) (h0 : XS w Av S T cf rf cd hb hrb i hc hr st A B0) (h1 : TRx l Gr n w d Av S T cf rf cd hb hrb r i i1 j j1 hc hr st A) (an : T.1 78 j1 = 12 ∧ ((S.1 4 i1 = 34 ∧ T.1 79 j1 = 45 ∧ r = 0) ∨ (S.1 4 i1 = 35 ∧ T.1 79 j1 = 126 ∧ r = 0) ∨ (S.1 4 i1 = 36 ∧ T.1 79 j1 = 33 ∧ r = 1))) (hu : ur S i1 ≤ 30) (hi : i1 < N) (hj : j1 < M) (hhc : hc + 2 ≤ 9682) (hhr : hr < 4200) : TRx l Gr n w d Av S T cf rf cd hb hrb r i (i1 + 1) j (j1 + 1) hc hr st A := by
  obtain ⟨t1, an⟩ := an
  refine TRg_fin hw1 hw h0 h1 (fun k st' s1 s2 b => ?_) (fun k st' s1 s2 b => ?_) (fun A1 st1 B1 xA oA => ?_)
  · rw [ur_s (by rcases an with ⟨q, -⟩ | ⟨q, -⟩ | ⟨q, -⟩ <;> rw [q] <;> decide)]
    have b : k + 100 ≤ 120 * (st' - st) + ur S i1 := b
    omega
  · have b : k + 100 ≤ 120 * (st' - st) + ur S i1 := b
    omega
  · have oA : OA w r hc hr A1 B1 := oA 0 (Nat.succ_pos _)
    have e8 : (zi A1 45 16 (nI (i1 + 1))).1 45 8 = nI (hc * w + w) := by rw [zi_k (by decide), ← hc2]; exact xA.1.2.2.2.1
    have hx57 : ∀ x, x < bw w r → (zi A1 45 16 (nI (i1 + 1))).1 57 (hc * w + x) = opf (bw w r) (A1.1 57) (hc * w) x := fun x hx => by rw [zi_c (by decide), opf_at hx]
    have mref : ∀ B, XS w Av S T cf rf cd hb hrb i1 (hc + 1) (hr + 1) st1 A1 B → OAs w [r] hc hr A1 B → B.1 78 j1 = 12 ∧ B.1 79 j1 = T.1 79 j1 ∧ B.1 73 85 = nI (hr + 1) ∧ MW B ∧ OA w r hc hr A1 B ∧ ∀ x, x < bw w r → B.1 122 (32 * hr + x) = opf (bw w r) (B.1 122) (32 * hr) x := fun B hB oB => ⟨(hB.2.1.1.2.1 78 j1 (by omega)).trans t1, hB.2.1.1.2.1 79 j1 (by omega), hB.2.1.2.1, hB.2.2.1.2.1, oB 0 (Nat.succ_pos _), fun x hx => (opf_at hx).symm⟩
    have hj2 : j1 < 12000 := by have := cx.2.2.2; omega
    rcases an with ⟨s4, t79, e0⟩ | ⟨s4, t79, e0⟩ | ⟨s4, t79, e0⟩
    · subst e0
      refine ⟨negP w (opf (bw w 0) (A1.1 57) (hc * w)), BU_neg, ?_, fun B hB oB => ?_⟩
      · obtain ⟨A2, q, run⟩ := zMv_det (w_sg34 (l := l) (n := n) (d := d + 6) (x1 := nI i1) hg hw e8 (hcw (by omega)) KEc_16 xA.2.2.1.1 (X := opf (bw w 0) (A1.1 57) (hc * w)) hx57)
        exact ⟨A2, ck_1 (z := 34) (e := 1) hg ho hw cx xA hi s4 (by omega) rfl (by show 1 ≤ hc + 1; omega) (by show hc + 1 + 1 ≤ _; omega) (kg_G hg (by omega) (by omega) run), q⟩
      · obtain ⟨b78, b79, b85, bW, bo, bx⟩ := mref B hB oB
        rw [opf_eq hw1 bo]
        obtain ⟨B2, q, g⟩ := mk_1 (l := l) (n := n) (w := w) (d := d) (z := 12) hg cx hB.2.1.1 (XS_7 hB) hj t1 (by omega) (mo_12 (d := d + 5) (x := 45) hg hj2 b78 (b79.trans t79) (wm_neg (d := d + 6) (T := B) hg hw hhr MEc_rfl bW b85 (fun j => opf_VC bo j) bx))
        exact ⟨W_neg (fun j => opf_VC bo j), B2, g, q⟩
    · subst e0
      refine ⟨cRet (fun j => opf (bw w 0) (A1.1 57) (hc * w) j ^^^ 1), BU_ret, ?_, fun B hB oB => ?_⟩
      · obtain ⟨A2, q, run⟩ := zMv_det (w_sg35 (l := l) (n := n) (d := d + 6) (x1 := nI i1) hg hw e8 (hcw (by omega)) KEc_16 (X := opf (bw w 0) (A1.1 57) (hc * w)) hx57)
        exact ⟨A2, ck_1 (z := 35) (e := 1) hg ho hw cx xA hi s4 (by omega) rfl (by show 1 ≤ hc + 1; omega) (by show hc + 1 + 1 ≤ _; omega) (kg_G hg (by omega) (by omega) run), q⟩
      · obtain ⟨b78, b79, b85, bW, bo, bx⟩ := mref B hB oB
        rw [opf_eq hw1 bo]
        obtain ⟨B2, q, g⟩ := mk_1 (l := l) (n := n) (w := w) (d := d) (z := 12) hg cx hB.2.1.1 (XS_7 hB) hj t1 (by omega) (mo_12 (d := d + 5) (x := 126) hg hj2 b78 (b79.trans t79) (wm_not (d := d + 6) (T := B) (m := w) hg hw hw1 hhr (by decide) (by rw [if_neg (by decide)]) MEc_rfl b85 bx))
        exact ⟨mWF_ret (fun j => VC_f (opf_VC bo j)), B2, g, q⟩
    · subst e0
      refine ⟨cRet (fun j => opf (bw w 1) (A1.1 57) (hc * w) j ^^^ 1), BU_ret, ?_, fun B hB oB => ?_⟩
      · obtain ⟨A2, q, run⟩ := zMv_det (w_sg36 (l := l) (n := n) (d := d + 6) (x1 := nI i1) hw hw1 e8 (hcw (by omega)) KEc_16 (X := opf (bw w 1) (A1.1 57) (hc * w)) (hx57 0 (bw_1 hw1)))
        exact ⟨A2, ck_1 (z := 36) (e := 1) hg ho hw cx xA hi s4 (by omega) rfl (by show 1 ≤ hc + 1; omega) (by show hc + 1 + 1 ≤ _; omega) (kg_G hg (by omega) (by omega) run), q⟩
      · obtain ⟨b78, b79, b85, bW, bo, bx⟩ := mref B hB oB
        rw [opf_eq hw1 bo]
        obtain ⟨B2, q, g⟩ := mk_1 (l := l) (n := n) (w := w) (d := d) (z := 12) hg cx hB.2.1.1 (XS_7 hB) hj t1 (by omega) (mo_12 (d := d + 5) (x := 33) hg hj2 b78 (b79.trans t79) (wm_not (d := d + 6) (T := B) (m := 1) hg hw hw1 hhr (by decide) (by rw [if_pos rfl]) MEc_rfl b85 bx))
        exact ⟨mWF_ret (fun j => VC_f (opf_VC bo j)), B2, g, q⟩
theorem oR2 {o : Nat} (h1 : 1 ≤ o) (h2 : o ≤ 18) : oRow2 (37 + o) = nI 2 := by
  have : o = 1 ∨ o = 2 ∨ o = 3 ∨ o = 4 ∨ o = 5 ∨ o = 6 ∨ o = 7 ∨ o = 8 ∨ o = 9 ∨ o = 10 ∨ o = 11 ∨ o = 12 ∨ o = 13 ∨ o = 14 ∨ o = 15 ∨ o = 16 ∨ o = 17 ∨ o = 18 := by omega
  rcases this with e | e | e | e | e | e | e | e | e | e | e | e | e | e | e | e | e | e <;> subst e <;> rfl
theorem bwd_bw (h : 8 ≤ o → r1 = 0) : bwd o (bw w r1) = bw w (if 6 ≤ o ∧ o ≤ 11 then 1 else r1) := by
  unfold bwd
  split
  · rfl
  · rfl
theorem lx_bin (hg : ip_gk (lg_tbl, vwCl, Gr)) (ho : ip_old (lg_tbl, vwCl, Gr)) (hw1 : 1 ≤ w) (hw : w ≤ 32) (cx : CTX S T N M) (h0 : XS w Av S T cf rf cd hb hrb i hc hr st A B0) (h1 : TRu l Gr n w d Av S T cf rf cd hb hrb [r1, r1] 0 i i2 j j2 hc hr st A) (hoo : 1 ≤ o ∧ o ≤ 18 ∧ o ≠ 12 ∧ o ≠ 13) (hr1 : r1 ≤ 1) (h8 : 8 ≤ o → r1 = 0) (hrr : r = if 6 ≤ o ∧ o ≤ 11 then 1 else r1) (s4 : S.1 4 i2 = nI (37 + o)) (s5 : S.1 5 i2 = nI r1) (t1 : T.1 78 j2 = 13) (t2 : T.1 79 j2 = nI o) (t3 : T.1 80 j2 = nI r1) (hi : i2 < N) (hj : j2 < M) (hhc : hc + 3 ≤ 9682) (hhr : hr + 1 < 4200) : TRx l Gr n w d Av S T cf rf cd hb hrb r i (i2 + 1) j (j2 + 1) hc hr st A := by
  refine TRg_fin hw1 hw h0 h1 (fun k st' s1 s2 b => ?_) (fun k st' s1 s2 b => ?_) (fun A1 st1 B1 xA oA => ?_)
  · have b : k + 69 * 2 + 0 ≤ 120 * (st' - st) := b
    omega
  · have b : k + 69 * 2 + 0 ≤ 120 * (st' - st) := b
    omega
  · have o0 : OA w r1 hc hr A1 B1 := oA 0 (Nat.succ_pos _)
    have o1 : OA w r1 (hc + 1) (hr + 1) A1 B1 := oA 1 (Nat.succ_lt_succ (Nat.succ_pos _))
    have e8 : (zi A1 45 16 (nI (i2 + 1))).1 45 8 = nI (hc * w + w + w) := by rw [zi_k (by decide), ← hc3]; exact xA.1.2.2.2.1
    have hb3 : hc * w + w + w ≤ 9682 * w := by have := hcs (w := w) (hc := hc) (u := 1) (by omega); rw [hc2] at this; exact this
    have hN := cx.2.1
    have hM := cx.2.2.2
    refine ⟨binP w (bw w r1) o (opf (bw w r1) (A1.1 57) (hc * w)) (opf (bw w r1) (A1.1 57) ((hc + 1) * w)), BU_bin, ?_, fun B hB oB => ?_⟩
    · obtain ⟨A2, q, run⟩ := zMv_det (w_bin (l := l) (n := n) (d := d + 6) (S := A1) (A := zi A1 45 16 (nI (i2 + 1))) (i := i2) (o := o) (r := r1) (m := bw w r1) (a := hc * w) (X := opf (bw w r1) (A1.1 57) (hc * w)) (Y := opf (bw w r1) (A1.1 57) ((hc + 1) * w)) hg hw hw1 (by omega) hoo hr1 rfl h8 (by rw [zi_c (by decide), xA.1.1.2 5 i2 (by omega)]; exact s5) e8 hb3 KEc_16 xA.2.2.1.1 (fun x hx => by rw [zi_c (by decide), opf_at hx]) (fun x hx => by rw [zi_c (by decide), opf_at hx, hc2]) (fun x => by rw [opf_eq hw1 o0]; exact VC_CNl (opf_VC o0 x)) (fun x => by rw [opf_eq hw1 o1]; exact VC_CNl (opf_VC o1 x)))
      refine ⟨A2, ck_1 (z := 37 + o) (e := 2) hg ho hw cx xA hi s4 (by omega) (oR2 hoo.1 hoo.2.1) (by show 2 ≤ hc + 2; omega) (by show hc + 2 + 1 ≤ _; omega) (kg_O hg (by omega) (by omega) run), ?_⟩
      rw [hrr, ← bwd_bw h8]
      exact q
    · have p0 : OA w r1 hc hr A1 B := oB 0 (Nat.succ_pos _)
      have p1 : OA w r1 (hc + 1) (hr + 1) A1 B := oB 1 (Nat.succ_lt_succ (Nat.succ_pos _))
      rw [opf_eq hw1 p0, opf_eq hw1 p1]
      obtain ⟨B2, q, g⟩ := mk_1 (l := l) (n := n) (w := w) (d := d) (z := 13) hg cx hB.2.1.1 (XS_7 hB) hj t1 (by omega) (mo_13 (d := d + 5) hg (by omega) ((hB.2.1.1.2.1 78 j2 (by omega)).trans t1) (wm_binary (d := d + 5) (T := B) (q := hr) (o := o) (m := bw w r1) (X := opf (bw w r1) (B.1 122) (32 * hr)) (Y := opf (bw w r1) (B.1 122) (32 * (hr + 1))) hg hw hw1 hhr (by omega) hoo ((hB.2.1.1.2.1 79 j2 (by omega)).trans t2) (by
        rw [hB.2.1.1.2.1 80 j2 (by omega), t3]
        unfold bw
        by_cases z : r1 = 1
        · rw [if_pos z, if_neg (by rw [z]; decide)]
        · rw [if_neg z, if_pos (by rw [show r1 = 0 by omega]; rfl)]) (fun y => by unfold bw; rw [if_neg (by have := h8 y; omega)]) MEc_rfl hB.2.2.1.2.1 hB.2.1.2.1 (fun x => opf_VC p0 x) (fun x => opf_VC p1 x) (fun x hx => (opf_at hx).symm) (fun x hx => (opf_at hx).symm)))
      refine ⟨W_bin (fun x => opf_VC p0 x) (fun x => opf_VC p1 x), B2, g, ?_⟩
      rw [hrr, ← bwd_bw h8]
      exact q
theorem lx_sel (hg : ip_gk (lg_tbl, vwCl, Gr)) (ho : ip_old (lg_tbl, vwCl, Gr)) (hw1 : 1 ≤ w) (hw : w ≤ 32) (cx : CTX S T N M) (h0 : XS w Av S T cf rf cd hb hrb i hc hr st A B0) (h1 : TRu l Gr n w d Av S T cf rf cd hb hrb [1, r, r] 0 i i2 j j2 hc hr st A) (hr1 : r ≤ 1) (s4 : S.1 4 i2 = 37) (s5 : S.1 5 i2 = nI r) (t1 : T.1 78 j2 = 14) (t3 : T.1 80 j2 = nI r) (hi : i2 < N) (hj : j2 < M) (hhc : hc + 4 ≤ 9682) (hhr : hr + 2 < 4200) : TRx l Gr n w d Av S T cf rf cd hb hrb r i (i2 + 1) j (j2 + 1) hc hr st A := by
  refine TRg_fin hw1 hw h0 h1 (fun k st' s1 s2 b => ?_) (fun k st' s1 s2 b => ?_) (fun A1 st1 B1 xA oA => ?_)
  · have b : k + 69 * 3 + 0 ≤ 120 * (st' - st) := b
    omega
  · have b : k + 69 * 3 + 0 ≤ 120 * (st' - st) := b
    omega
  · have oc : OA w 1 hc hr A1 B1 := oA 0 (Nat.succ_pos _)
    have e8 : (zi A1 45 16 (nI (i2 + 1))).1 45 8 = nI (hc * w + w + w + w) := by rw [zi_k (by decide), ← hc4]; exact xA.1.2.2.2.1
    have hb3 : hc * w + w + w + w ≤ 9682 * w := by have := hcs (w := w) (hc := hc) (u := 2) (by omega); rw [hc3] at this; exact this
    have hN := cx.2.1
    have hM := cx.2.2.2
    refine ⟨selP (bw w r) (A1.1 57 (hc * w)) (opf (bw w r) (A1.1 57) ((hc + 1) * w)) (opf (bw w r) (A1.1 57) ((hc + 2) * w)), BU_sel, ?_, fun B hB oB => ?_⟩
    · obtain ⟨A2, q, run⟩ := zMv_det (w_sg37 (l := l) (n := n) (d := d + 6) (S := A1) (A := zi A1 45 16 (nI (i2 + 1))) (i := i2) (r := r) (m := bw w r) (a := hc * w) (c := A1.1 57 (hc * w)) (X := opf (bw w r) (A1.1 57) ((hc + 1) * w)) (Y := opf (bw w r) (A1.1 57) ((hc + 2) * w)) hg hw hw1 (by omega) hr1 rfl (by rw [zi_c (by decide), xA.1.1.2 5 i2 (by omega)]; exact s5) e8 hb3 KEc_16 xA.2.2.1.1 (by rw [zi_c (by decide)]) (fun x hx => by rw [zi_c (by decide), opf_at hx, hc2]) (fun x hx => by rw [zi_c (by decide), opf_at hx, hc3]))
      exact ⟨A2, ck_1 (z := 37) (e := 3) hg ho hw cx xA hi s4 (by omega) rfl (by show 3 ≤ hc + 3; omega) (by show hc + 3 + 1 ≤ _; omega) (kg_G hg (by omega) (by omega) run), q⟩
    · have p0 : OA w 1 hc hr A1 B := oB 0 (Nat.succ_pos _)
      have p1 : OA w r (hc + 1) (hr + 1) A1 B := oB 1 (Nat.succ_lt_succ (Nat.succ_pos _))
      have p2 : OA w r (hc + 2) (hr + 2) A1 B := oB 2 (Nat.succ_lt_succ (Nat.succ_lt_succ (Nat.succ_pos _)))
      have c0 := p0 0 (show 0 < 1 by omega)
      rw [Nat.add_zero, Nat.add_zero] at c0
      rw [opf_eq hw1 p1, opf_eq hw1 p2, c0.1]
      obtain ⟨B2, q, g⟩ := mk_1 (l := l) (n := n) (w := w) (d := d) (z := 14) hg cx hB.2.1.1 (XS_7 hB) hj t1 (by omega) (mo_14 (d := d + 5) (q := hr) (r := r) (m := bw w r) (c := B.1 122 (32 * hr)) (X := opf (bw w r) (B.1 122) (32 * (hr + 1))) (Y := opf (bw w r) (B.1 122) (32 * (hr + 2))) hg hw hw1 hhr (by omega) ((hB.2.1.1.2.1 78 j2 (by omega)).trans t1) hr1 rfl ((hB.2.1.1.2.1 80 j2 (by omega)).trans t3) hB.2.1.2.1 hB.2.2.1.2.1 c0.2 (fun x => opf_VC p1 x) (fun x => opf_VC p2 x) rfl (fun x hx => (opf_at hx).symm) (fun x hx => (opf_at hx).symm))
      exact ⟨W_sel c0.2 (fun x => opf_VC p1 x) (fun x => opf_VC p2 x), B2, g, q⟩
theorem lx_int (hg : ip_gk (lg_tbl, vwCl, Gr)) (ho : ip_old (lg_tbl, vwCl, Gr)) (hw1 : 1 ≤ w) (hw : w ≤ 32) (cx : CTX S T N M) (h0 : XS w Av S T cf rf cd hb hrb i hc hr st A B0) (h1 : TRu l Gr n w d Av S T cf rf cd hb hrb [1] 119 i i1 j j1 hc hr st A) (s4 : S.1 4 i1 = 31) (t1 : T.1 78 j1 = 10) (hi : i1 < N) (hj : j1 < M) (hhc : hc + 2 ≤ 9682) (hhr : hr < 4200) : TRx l Gr n w d Av S T cf rf cd hb hrb 0 i (i1 + 1) j (j1 + 1) hc hr st A := by
  refine TRg_fin hw1 hw h0 h1 (fun k st' s1 s2 b => ?_) (fun k st' s1 s2 b => ?_) (fun A1 st1 B1 xA oA => ?_)
  · have b : k + 69 * 1 + 119 ≤ 120 * (st' - st) := b
    omega
  · have b : k + 69 * 1 + 119 ≤ 120 * (st' - st) := b
    omega
  · have e8 : (zi A1 45 16 (nI (i1 + 1))).1 45 8 = nI (hc * w + w) := by rw [zi_k (by decide), ← hc2]; exact xA.1.2.2.2.1
    have hN := cx.2.1
    have hM := cx.2.2.2
    refine ⟨cRet (fun x => if x = 0 then A1.1 57 (hc * w) else -2), BU_ret, ?_, fun B hB oB => ?_⟩
    · obtain ⟨A2, q, run⟩ := zMv_det (w_fac31 (l := l) (n := n) (d := d + 4) (A := zi A1 45 16 (nI (i1 + 1))) (x1 := nI i1) (a := hc * w) (x := A1.1 57 (hc * w)) hg hw hw1 e8 (hcw (by omega)) (by rw [zi_c (by decide)]))
      exact ⟨A2, ck_1 (z := 31) (e := 1) hg ho hw cx xA hi s4 (by omega) rfl (by show 1 ≤ hc + 1; omega) (by show hc + 1 + 1 ≤ _; omega) (kg_F hg (by omega) (by omega) run), OPk_S KEc_16 q⟩
    · have p0 : OA w 1 hc hr A1 B := oB 0 (Nat.succ_pos _)
      have c0 := p0 0 (show 0 < 1 by omega)
      rw [Nat.add_zero, Nat.add_zero] at c0
      rw [c0.1]
      obtain ⟨B2, q, g⟩ := mk_1 (l := l) (n := n) (w := w) (d := d) (z := 10) hg cx hB.2.1.1 (XS_7 hB) hj t1 (by omega) (mo_10 (d := d + 5) (q := hr) (x := B.1 122 (32 * hr)) hg hw hw1 hhr (by omega) ((hB.2.1.1.2.1 78 j1 (by omega)).trans t1) hB.2.1.2.1 rfl)
      refine ⟨mWF_ret (fun x => ?_), B2, g, q⟩
      show VC B (if x = 0 then B.1 122 (32 * hr) else -2)
      split
      · exact c0.2
      · exact VC_c2
/-- ( ): a STEP, the EXPR; the reference has one instruction more behind it -/
theorem lx_bra (hg : ip_gk (lg_tbl, vwCl, Gr)) (cx : CTX S T N M) (h0 : XS w Av S T cf rf cd hb hrb i hc hr st A B0) (h1 : TRu l Gr n w d Av S T cf rf cd hb hrb [] 119 i i1 j j1 hc hr st A) (h2 : ∀ A1 B1 st1, st ≤ st1 → XS w Av S T cf rf cd hb hrb i1 hc hr st1 A1 B1 → TRx l Gr n w d Av S T cf rf cd hb hrb r i1 i' j1 j2 hc hr st1 A1) (hu : ur S i' ≤ 30) (t1 : T.1 78 j2 = 15) (hj : j2 < M) : TRx l Gr n w d Av S T cf rf cd hb hrb r i i' j (j2 + 1) hc hr st A := by
  obtain ⟨k1, A1, g1, kb1, ⟨st1, s1, b1, m1⟩ | ⟨b1, m1⟩⟩ := h1
  · obtain ⟨B01, -, -, -, -, x01, -⟩ := m1 B0 h0
    have hst1 := x01.2.2.2.2.1
    have b1 : k1 + 69 * 0 + 119 ≤ 120 * (st1 - st) := b1
    obtain ⟨k2, A2, g2, kb2, ⟨st2, s2, b2, m2⟩ | ⟨b2, m2⟩⟩ := h2 A1 B01 st1 s1 x01
    · have b2 : k2 + 100 ≤ 120 * (st2 - st1) + ur S i' := b2
      refine ⟨k1 + k2, A2, CGo_tr g1 g2, KBc_tr kb1 kb2, Or.inl ⟨st2, by omega, by show k1 + k2 + 100 ≤ _; omega, fun B hB => ?_⟩⟩
      obtain ⟨B1, n1, f1, e1, v1, x1, o1⟩ := m1 B hB
      obtain ⟨B2, n2, f2, e2, v2, x2, o2⟩ := m2 B1 x1
      refine ⟨B2, MGo_tr n1 (MGo_tr n2 ?_), FX_tr f1 f2 (Nat.le_refl _), FXm_tr e1 e2 (Nat.le_refl _), VM_tr v1 v2, x2, o2⟩
      exact mg_o hg hj cx.2.2.2 (x2.2.1.1.1.trans cx.2.2.1) (XS_7 x2) ((x2.2.1.1.2.1 78 j2 (by omega)).trans t1) (by decide) (mo_nn (d := d + 5) (z := 15) (by have := cx.2.2.2; omega) ((x2.2.1.1.2.1 78 j2 (by omega)).trans t1) (by omega))
    · refine ⟨k1 + k2, A2, CGo_tr g1 g2, KBc_tr kb1 kb2, Or.inr ⟨by omega, fun B hB => ?_⟩⟩
      obtain ⟨B1, n1, f1, e1, v1, x1, o1⟩ := m1 B hB
      obtain ⟨B2, j3, n2, kb, fb⟩ := m2 B1 x1
      exact ⟨B2, j3, MGo_tr n1 n2, KBm_tr (KBm_F e1) kb, fb⟩
  · exact ⟨k1, A1, g1, kb1, Or.inr ⟨b1, m1⟩⟩
end XOP
