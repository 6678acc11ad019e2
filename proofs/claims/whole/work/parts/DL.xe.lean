/-! BUILD on both sides: a[i] -/
theorem zi_z2 {S : zS} {c k : Nat} {u v : Int32} : zi (zi S c k u) c k v = zi S c k v := Prod.ext (funext fun c' => funext fun k' => by
  rw [zi_get, zi_get, zi_get]
  by_cases h : c' = c ∧ k' = k
  · rw [if_pos h, if_pos h]
  · rw [if_neg h, if_neg h, if_neg h]) rfl
def Lf (z m : Nat) (f : Nat → Nat → Int32) : Nat → Nat → Int32 := fun k j => if k < z ∧ j < m then f k j else -2
/-- what SORTS says of the visible NAMEs -/
def AvO (S : zS) (Av : Nat → Nat → Prop) (cd : Nat) : Prop := ∀ e a, Av e a → (S.1 11 e = 2 → S.1 12 e = 0) ∧ (S.1 11 e = 0 ∨ S.1 11 e = 1 ∨ S.1 13 e = 0) ∧ (S.1 11 e = 3 → 0 < cd)
section XEL
variable {l : Launch} {Gr : zG} {n w : Nat} {d : Nat} {Av : Nat → Nat → Prop} {S S' T A A' A1 A2 B B' B0 B1 B2 : zS} {cf rf cd hb hrb i i' hc hr st r ex i1 i2 i3 j j' j1 j2 j3 N M z e D a m o r1 v q k : Nat} {os : List Nat} {X Y F F' O : Nat → Int32} {R : zS → Prop} {x x1 f pl : Int32}
theorem Lf_at {f : Nat → Nat → Int32} {k j : Nat} (h1 : k < z) (h2 : j < m) : Lf z m f k j = f k j := if_pos ⟨h1, h2⟩
theorem Lf_VC {f : Nat → Nat → Int32} (h : ∀ k j, k < z → j < m → VC B (f k j)) (k j : Nat) : VC B (Lf z m f k j) := by
  unfold Lf
  split
  · rename_i q
    exact h k j q.1 q.2
  · exact VC_c2
/-- the elements' literals, on both sides -/
theorem el_lit (hw1 : 1 ≤ w) (hw : w ≤ 32) (h0 : XS w Av S T cf rf cd hb hrb i hc hr st A B0) (av : AvO S Av cd) (hD : D ≤ 800) (ra : RFA D Av S T e j1 k r z a) (hz : 0 < z) (hj : j1 < 12000) : ∃ f : Nat → Nat → Int32, (∀ (dd y x : Nat) (A' : zS), y < z → x < bw w r → (∀ c u, (11 ≤ c ∧ c ≤ 15) ∨ c = 20 ∨ c = 58 → A'.1 c u = A.1 c u) → zMi l Gr (zc n w) 168 M_Builder_literalOf dd [.ref 77, .int (nI e), .int (nI y), .int (nI x)] A' (fun v A'' => A'' = A' ∧ v = f y x)) ∧ ∀ B, XS w Av S T cf rf cd hb hrb i hc hr st A B → (∀ y x, y < z → x < bw w r → VC B (f y x)) ∧ ∀ (dd y x : Nat) (B' : zS), y < z → x < bw w r → (∀ c u, (102 ≤ c ∧ c ≤ 105) ∨ c = 117 ∨ c = 132 → B'.1 c u = B.1 c u) → zMi l Gr (zc n w) 168 M_Mo_elementBit dd [.ref 105, .int (nI j1), .int (nI y), .int (nI x)] B' (fun u B'' => u = f y x ∧ B'' = B') := by
  obtain ⟨q1, q2, q3, q4, q5, q6, q7, q8, q9, q10, q11, q12, q13, q14⟩ := ra
  have kk := nk q7 q2
  have hmx : max 1 z = z := by omega
  have hb1 := bw_le (w := w) (r := r) hw1
  have hk : k = 0 ∨ k = 1 := by
    rcases (av e a q6).2.1 with y | y | y
    · exact Or.inl (kk.1.mp y)
    · exact Or.inr (kk.2.1.mp y)
    · rw [q9] at y
      have := (nI_eq (a := z) (b := 0) (by omega) (by omega)).mp y
      omega
  have tb : ∀ B B' : zS, XS w Av S T cf rf cd hb hrb i hc hr st A B → (∀ c u, (102 ≤ c ∧ c ≤ 105) ∨ c = 117 ∨ c = 132 → B'.1 c u = B.1 c u) → ∀ c, 102 ≤ c → c ≤ 105 → B'.1 c j1 = T.1 c j1 := fun B B' hB hF c a1 a2 => by
    rw [hF c j1 (by omega)]
    exact hB.2.1.1.2.1 c j1 (by omega)
  rcases hk with e0 | e0
  · subst e0
    have E := (h0.2.2.2.2.2.2.2 e a r z q6 q3 q4 q8 q9).1 (kk.1.mpr rfl)
    rw [hmx] at E
    refine ⟨fun y x => 2 * (A.1 20 (a + y) + nI x), fun dd y x A' hy hx hA => ?_, fun B hB => ?_⟩
    · refine zMi_imp (w_lit0 (a := a) (b := y) (by omega) (by rw [hA 11 e (by omega), h0.1.1.2 11 e (by omega), q7]; decide) (by rw [hA 14 e (by omega), h0.1.1.2 14 e (by omega)]; exact q10 (by omega)) (by have := E.1; omega)) (fun v A'' q => ⟨q.1, ?_⟩)
      rw [q.2, hA 20 _ (by omega)]
    · have EB := (hB.2.2.2.2.2.2.2 e a r z q6 q3 q4 q8 q9).1 (kk.1.mpr rfl)
      rw [hmx] at EB
      refine ⟨fun y x hy hx => ?_, fun dd y x B' hy hx hF => ?_⟩
      · show VC B (2 * (A.1 20 (a + y) + nI x))
        rw [(EB.2 y hy).1]
        exact (EB.2 y hy).2 x hx
      · refine zMi_imp (wm_el0 (a := a) (k := y) (x := x) hj ((tb B B' hB hF 102 (by omega) (by omega)).trans q11) ((tb B B' hB hF 103 (by omega) (by omega)).trans q12) (by have := E.1; omega)) (fun v B'' q => ⟨?_, q.2⟩)
        rw [q.1, hF 117 _ (by omega), ← (EB.2 y hy).1]
  · subst e0
    have E := (h0.2.2.2.2.2.2.2 e a r z q6 q3 q4 q8 q9).2.1 (kk.2.1.mpr rfl)
    rw [hmx] at E
    refine ⟨fun y x => A.1 58 ((a + y) * w + x), fun dd y x A' hy hx hA => ?_, fun B hB => ?_⟩
    · refine zMi_imp (w_lit1 (a := a) (b := y) hw (by omega) (by rw [hA 11 e (by omega), h0.1.1.2 11 e (by omega), q7]; rfl) (by rw [hA 14 e (by omega), h0.1.1.2 14 e (by omega)]; exact q10 (by omega)) (by have := E.1; omega) (by omega)) (fun v A'' q => ⟨q.1, ?_⟩)
      rw [q.2, hA 58 _ (by omega)]
    · have EB := (hB.2.2.2.2.2.2.2 e a r z q6 q3 q4 q8 q9).2.1 (kk.2.1.mpr rfl)
      rw [hmx] at EB
      refine ⟨fun y x hy hx => ?_, fun dd y x B' hy hx hF => ?_⟩
      · show VC B (A.1 58 ((a + y) * w + x))
        rw [(EB.2 y x hy hx).1]
        exact (EB.2 y x hy hx).2
      · refine zMi_imp (wm_el1 (a := a) (k := y) (x := x) hj (by rw [tb B B' hB hF 102 (by omega) (by omega), q11]; decide) ((tb B B' hB hF 103 (by omega) (by omega)).trans q12) (by have := E.1; omega) (by omega)) (fun v B'' q => ⟨?_, q.2⟩)
        rw [q.1, hF 132 _ (by omega), ← (EB.2 y x hy hx).1]
theorem XS_nop (hw1 : 1 ≤ w) (hw : w ≤ 32) (h : XS w Av S T cf rf cd hb hrb i hc hr st A B) : XS w Av S T cf rf cd hb hrb i1 hc hr st (zi A 45 16 (nI i1)) B := XS_k hw1 hw h (FK_zi (P := PXc w hc cd) (Or.inl ⟨rfl, Or.inr (Or.inl rfl)⟩)) (FM_rfl (P := PXm hr cd)) (fun _ h => h) h.2.2.2.2.2.1 h.2.2.2.2.2.2.1 (RL_E h.2.2.1 KEc_16 MEc_rfl) (by rw [zi_c (by decide)]; exact h.1.2.2.1) (by rw [zi_k (by decide)]; exact h.1.2.2.2.1) (by rw [zi_get, if_pos ⟨rfl, rfl⟩]) (by rw [zi_k (by decide)]; exact h.1.2.2.2.2.2.1) h.2.1.2.1 h.2.1.2.2.1 h.2.2.2.2.1 h.2.2.2.2.2.1 h.2.2.2.2.2.2.1
theorem lx_elt (hg : ip_gk (lg_tbl, vwCl, Gr)) (ho : ip_old (lg_tbl, vwCl, Gr)) (hw1 : 1 ≤ w) (hw : w ≤ 32) (cx : CTX S T N M) (av : AvO S Av cd) (hD : D ≤ 800) (h0 : XS w Av S T cf rf cd hb hrb i hc hr st A B0) (h1 : TRu l Gr n w d Av S T cf rf cd hb hrb [0] 119 i i1 j j1 hc hr st A) {pb : Nat} (ra : RFA D Av S T e j1 k r z a) (hz : 0 < z) (hpb : pb ≤ 1) (s5 : S.1 5 i = nI e) (s7 : S.1 7 i = nI (2 * pb)) (u4 : S.1 4 i1 = 26) (u5 : S.1 5 i1 = nI i) (u6 : S.1 6 i1 = nI q) (v4 : S.1 4 (i1 + 1) = 27) (v5 : S.1 5 (i1 + 1) = nI i) (t1 : T.1 78 j1 = 7) (t6 : T.1 106 j1 = nI q) (t7 : T.1 107 j1 = nI pb) (hii : i < i1) (hi : i1 + 1 < N) (hj : j1 < M) (hhc : hc + 2 ≤ 9682) (hhr : hr < 4200) : TRx l Gr n w d Av S T cf rf cd hb hrb r i (i1 + 2) j (j1 + 1) hc hr st A := by
  have hN := cx.2.1
  have hM := cx.2.2.2
  refine TRg_fin3 (kc := 2) hw1 hw h0 h1 (fun k st' s1 s2 b => ?_) (fun k st' s1 s2 b => ?_) (fun A1 st1 B1 xA oA => ?_)
  · have b : k + 69 * 1 + 119 ≤ 120 * (st' - st) := b
    omega
  · have b : k + 69 * 1 + 119 ≤ 120 * (st' - st) := b
    omega
  · have xA : XS w Av S T cf rf cd hb hrb i1 (hc + 1) (hr + 1) st1 A1 B1 := xA
    obtain ⟨q1, q2, q3, q4, q5, q6, q7, q8, q9, q10, q11, q12, q13, q14⟩ := id ra
    have hj2 : j1 < 12000 := by omega
    obtain ⟨f, hcl, hrf⟩ := el_lit (l := l) (Gr := Gr) (n := n) hw1 hw xA av hD ra hz hj2
    have cA : ∀ c u, (4 ≤ c ∧ c ≤ 7) ∨ (11 ≤ c ∧ c ≤ 15) → A1.1 c u = S.1 c u := fun c u h => xA.1.1.2 c u (by omega)
    have X57 : ∀ (v : Int32) x, x < w → (zi A1 45 16 v).1 57 (hc * w + x) = opf (bw w 0) (A1.1 57) (hc * w) x := fun v x hx => by rw [zi_c (by decide), opf_at (m := bw w 0) hx]
    have e8 : ∀ v : Int32, (zi A1 45 16 v).1 45 8 = nI (hc * w + w) := fun v => by rw [zi_k (by decide), ← hc2]; exact xA.1.2.2.2.1
    have xN := XS_nop (i1 := i1 + 1) hw1 hw xA
    obtain ⟨A2, q26, run26⟩ := zMv_det (w_chk (l := l) (n := n) (d := d + 4) (A := zi A1 45 16 (nI (i1 + 1))) (j := i1) (i := i) (u := e) (z := z) (a := hc * w) (X := opf (bw w 0) (A1.1 57) (hc * w)) hg hw (by omega) (by omega) (by omega) q4 (by rw [zi_c (by decide), cA 5 i1 (by omega)]; exact u5) (by rw [zi_c (by decide), cA 5 i (by omega)]; exact s5) (e8 _) (hcw (by omega)) (by rw [zi_c (by decide), cA 13 e (by omega)]; exact q9) (X57 _))
    have g26 := ck_1 (z := 26) (e := 1) hg ho hw cx xA (by omega) u4 (by omega) rfl (by omega) (by omega) (kg_F (l := l) (n := n) (d := d) hg (by omega) (by omega) run26)
    have n7 : (zi A1 45 16 (nI (i1 + 1))).1 7 i = nI (2 * pb) := by rw [zi_c (by decide), cA 7 i (by omega)]; exact s7
    have pbc : nI (2 * pb) = 0 ↔ pb = 0 := by
      rw [show (0 : Int32) = nI 0 from rfl, nI_eq (by omega) (by omega)]
      omega
    have pbm : nI pb = 0 ↔ pb = 0 := nI_eq (b := 0) (by omega) (by omega)
    have cl27 : ∀ (p : CP (Nat → Int32)), (pb = 0 ∨ nvb (xbo (opf (bw w 0) (A1.1 57) (hc * w))) w 0 < z) → zMv l Gr (zc n w) 168 M_Builder_readElement (d + 10) [.ref 77, .int (nI i)] (zi A1 45 16 (nI (i1 + 2))) (fun A' => OPk (p.1 A1).2 (zi A1 45 16 (nI (i1 + 2))) A' (hc * w) w (bw w r) (p.1 A1).1) → ∃ A2, CGo l Gr n w d 2 A1 (kEnd A2) ∧ OPk (p.1 A1).2 (zi A1 45 16 (nI (i1 + 2))) A2 (hc * w) w (bw w r) (p.1 A1).1 := fun p hp q27 => by
      have ea : A2 = zi A1 45 16 (nI (i1 + 1)) := q26.1 (by rw [n7, pbc]; exact hp)
      rw [ea, kEnd_g (st := st1) (by rw [zi_c (by decide)]; exact xA.1.2.2.1) (by rw [zi_k (by decide)]; exact xA.1.2.2.2.2.2.1) xA.2.2.2.2.1] at g26
      obtain ⟨A3, q3, run27⟩ := zMv_det (w_fac27 (l := l) (n := n) (w := w) (d := d + 4) (j := i1 + 1) (i := i) hg (by omega) (by rw [zi_c (by decide), cA 5 _ (by omega)]; exact v5) q27)
      have g27 := ck_1 (A1 := A3) (z := 27) (e := 1) hg ho hw cx xN hi v4 (by omega) rfl (by omega) (by omega) (kg_F (l := l) (n := n) (d := d) hg (by omega) (by omega) (by rw [zi_z2]; exact run27))
      exact ⟨A3, CGo_tr g26 g27, q3⟩
    have hAf : ∀ (v : Int32) (P : Nat → Nat → Prop) (A' : zS), (∀ c u, P c u → 51 ≤ c ∧ c ≤ 57) → FK P (zi A1 45 16 v) A' → ∀ c u, (11 ≤ c ∧ c ≤ 15) ∨ c = 20 ∨ c = 58 → A'.1 c u = A1.1 c u := fun v P A' hP hF c u hc => by
      rw [hF.1 c u (by omega) (by omega) (fun y => by have := hP c u y; omega), zi_c (by omega)]
    by_cases h0p : pb = 0
    · refine Or.inl ⟨eltP w (bw w r) (opf (bw w 0) (A1.1 57) (hc * w)) (Lf z (bw w r) f) z 0 (fun _ => -2), BU_elt _ _ _, cl27 _ (Or.inl h0p) ?_, fun B hB oB => ?_⟩
      · refine w_readN (d := d + 5) (S := A1) (u := e) (r := r) (L := Lf z (bw w r) f) hg hw hw1 (by omega) (by omega) q3 rfl q4 (by rw [zi_c (by decide), cA 5 i (by omega)]; exact s5) (by rw [zi_c (by decide), cA 7 i (by omega), s7]; exact pbc.mpr h0p) (e8 _) (hcw (by omega)) (by rw [zi_c (by decide), cA 12 e (by omega)]; exact q8) (by rw [zi_c (by decide), cA 13 e (by omega)]; exact q9) KEc_16 xA.2.2.1.1 (X57 _) (fun y x A' hy hx hF => ?_)
        rw [Lf_at hy hx]
        exact hcl _ y x A' hy hx (hAf _ P56 A' (fun c u y => by unfold P56 at y; omega) hF)
      · have hB : XS w Av S T cf rf cd hb hrb i1 (hc + 1) (hr + 1) st1 A1 B := hB
        have p0 : OA w 0 hc hr A1 B := oB 0 (Nat.succ_pos _)
        obtain ⟨vf, ef⟩ := hrf B hB
        have xx := opf_eq hw1 p0
        obtain ⟨B2, qb, gb⟩ := mk_1 (l := l) (n := n) (w := w) (d := d) (z := 7) hg cx hB.2.1.1 (XS_7 hB) hj t1 (by omega) (mo_7 (d := d + 5) hg hj2 ((hB.2.1.1.2.1 78 j1 (by omega)).trans t1) (wm_idxN (d := d + 5) (q := hr) (r := r) (z := z) (m := bw w r) (X := opf (bw w 0) (A1.1 57) (hc * w)) (L := Lf z (bw w r) f) hg hw hw1 hhr hj2 q3 rfl q4 ((hB.2.1.1.2.1 104 j1 (by omega)).trans q13) ((hB.2.1.1.2.1 105 j1 (by omega)).trans q14) (by rw [hB.2.1.1.2.1 107 j1 (by omega), t7]; exact pbm.mpr h0p) hB.2.1.2.1 hB.2.2.1.2.1 (fun x => by rw [xx]; exact opf_VC p0 x) (fun y x => Lf_VC vf y x) (fun x hx => by rw [xx]; exact (opf_at (m := bw w 0) hx).symm) (fun y x B' hy hx hF => by
          rw [Lf_at hy hx]
          exact ef _ y x B' hy hx (fun c u z => hF.1 c u (by omega) (by omega) (by unfold PUe; omega)))))
        exact ⟨W_elt _ _ _ B (fun x => by rw [xx]; exact opf_VC p0 x) (fun y x => Lf_VC vf y x) (fun _ => VC_c2), B2, gb, qb⟩
    · by_cases hv : nvb (xbo (opf (bw w 0) (A1.1 57) (hc * w))) w 0 < z
      · refine Or.inl ⟨cRet (Lf z (bw w r) f (nvb (xbo (opf (bw w 0) (A1.1 57) (hc * w))) w 0)), BU_ret, cl27 _ (Or.inr hv) ?_, fun B hB oB => ?_⟩
        · refine zMv_imp (w_readP (d := d + 5) (u := e) (r := r) (m := bw w r) (F := Lf z (bw w r) f (nvb (xbo (opf (bw w 0) (A1.1 57) (hc * w))) w 0)) hg hw hw1 (by omega) (by omega) q3 rfl (by rw [zi_c (by decide), cA 5 i (by omega)]; exact s5) (by rw [zi_c (by decide), cA 7 i (by omega), s7]; exact fun y => h0p (pbc.mp y)) (e8 _) (hcw (by omega)) (by rw [zi_c (by decide), cA 12 e (by omega)]; exact q8) (X57 _) (fun x A' hx hF => ?_)) (fun A' h => OPk_S KEc_16 h)
          rw [Lf_at hv hx]
          exact hcl _ _ x A' hv hx (hAf _ _ A' (fun c u y => by omega) hF)
        · have hB : XS w Av S T cf rf cd hb hrb i1 (hc + 1) (hr + 1) st1 A1 B := hB
          have p0 : OA w 0 hc hr A1 B := oB 0 (Nat.succ_pos _)
          obtain ⟨vf, ef⟩ := hrf B hB
          have xx := opf_eq hw1 p0
          obtain ⟨B2, qb, gb⟩ := mk_1 (l := l) (n := n) (w := w) (d := d) (z := 7) hg cx hB.2.1.1 (XS_7 hB) hj t1 (by omega) (mo_7 (d := d + 5) hg hj2 ((hB.2.1.1.2.1 78 j1 (by omega)).trans t1) (wm_idxP (d := d + 5) (q := hr) (r := r) (z := z) (m := bw w r) (X := opf (bw w 0) (A1.1 57) (hc * w)) (F := Lf z (bw w r) f (nvb (xbo (opf (bw w 0) (A1.1 57) (hc * w))) w 0)) hg hw hw1 hhr hj2 q3 rfl q4 ((hB.2.1.1.2.1 104 j1 (by omega)).trans q13) ((hB.2.1.1.2.1 105 j1 (by omega)).trans q14) (by rw [hB.2.1.1.2.1 107 j1 (by omega), t7]; exact fun y => h0p (pbm.mp y)) hB.2.1.2.1 (fun x hx => by rw [xx]; exact (opf_at (m := bw w 0) hx).symm) (fun x B' hv hx hF => by
            rw [Lf_at hv hx]
            exact ef _ _ x B' hv hx (fun c u z => hF.1 c u (by omega) (by omega) (by unfold PUe; omega)))))
          exact ⟨mWF_ret (fun x => Lf_VC vf _ x), B2, gb, qb.1 hv⟩
      · have e2 := q26.2 (by rw [n7]; exact fun y => h0p (pbc.mp y)) hv
        have f5 : (zi A1 45 16 (nI (i1 + 1))).1 3 5 = 0 := by rw [zi_c (by decide)]; exact xA.1.2.1
        have kt := kT_0 (g := 7) (pl := (zi A1 45 16 (nI (i1 + 1))).1 6 i1) f5
        rw [kEnd_g (A := A2) (st := st1) (by rw [e2, kT_n (by decide), zi_c (by decide)]; exact xA.1.2.2.1) (by rw [e2, kT_n (by decide), zi_k (by decide)]; exact xA.1.2.2.2.2.2.1) xA.2.2.2.2.1] at g26
        refine Or.inr ⟨1, A2, by omega, g26, ?_, fun B hB oB => ?_⟩
        · rw [e2]
          refine KBc_tr (A1 := zi A1 45 16 (nI (i1 + 1))) ⟨fun c k q1 q2 q3 => ?_, fun _ _ _ => rfl⟩ KBc_T
          rw [zi_c (by omega)]
        · have hB : XS w Av S T cf rf cd hb hrb i1 (hc + 1) (hr + 1) st1 A1 B := hB
          have p0 : OA w 0 hc hr A1 B := oB 0 (Nat.succ_pos _)
          have xx := opf_eq hw1 p0
          obtain ⟨B2, qb, gb⟩ := mk_1 (l := l) (n := n) (w := w) (d := d) (z := 7) hg cx hB.2.1.1 (XS_7 hB) hj t1 (by omega) (mo_7 (d := d + 5) hg hj2 ((hB.2.1.1.2.1 78 j1 (by omega)).trans t1) (wm_idxP (d := d + 5) (q := hr) (r := r) (z := z) (m := bw w r) (X := opf (bw w 0) (A1.1 57) (hc * w)) (F := fun _ => 0) hg hw hw1 hhr hj2 q3 rfl q4 ((hB.2.1.1.2.1 104 j1 (by omega)).trans q13) ((hB.2.1.1.2.1 105 j1 (by omega)).trans q14) (by rw [hB.2.1.1.2.1 107 j1 (by omega), t7]; exact fun y => h0p (pbm.mp y)) hB.2.1.2.1 (fun x hx => by rw [xx]; exact (opf_at (m := bw w 0) hx).symm) (fun x B' hv' hx hF => absurd hv' hv)))
          have mt := mT_ff (f := 7) (pl := B.1 106 j1) (XS_7 hB)
          refine ⟨B2, _, gb, by rw [qb.2 hv]; exact KBm_T, by rw [e2, kt.1]; decide, by rw [qb.2 hv, mt.1, e2, kt.1], ?_⟩
          rw [qb.2 hv, mt.2, e2, kt.2, zi_c (by decide), cA 6 i1 (by omega), u6, hB.2.1.1.2.1 106 j1 (by omega), t6]
end XEL
