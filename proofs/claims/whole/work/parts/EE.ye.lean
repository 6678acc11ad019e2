/-! BUILD on both sides: a[i] = EXPR -/
section YEL
variable {l : Launch} {Cx : Nat → Prop} {Gr : zG} {n w : Nat} {d : Nat} {Av Av' : Nat → Nat → Prop} {S T A A' A1 A2 B B' B0 B1 B2 : zS} {Z Z1 Z2 : Nat → zS → zS → Prop} {c c1 c2 : Int} {cf rf cd hb hrb i i' hc hr st r i1 i2 ih j j' j1 j2 N M z z2 e vw nv u sd no p lo hi k a b y m q D pb ex : Nat} {vb vq vt bo : Nat → Nat} {os : List Nat} {Q : Option Value → zS → Prop} {X : Nat → Int32}
theorem el_core (hg : ip_gk (lg_tbl, vwCl, Gr)) (ho : ip_old (lg_tbl, vwCl, Gr)) (hw1 : 1 ≤ w) (hw : w ≤ 32) (cx : CTX S T N M) (hD : D ≤ 800) (h0 : XS w Av S T 0 0 0 0 0 i2 (hc + 2) 2 st A B0) (hEI : pb = 0 ∨ nvb (xbo (opf (bw w 0) (A.1 57) (hc * w))) w 0 < z) (ra : RFA D Av S T e j2 1 r z a) (hz : 0 < z) (haz : a + z ≤ 256) (hpb : pb ≤ 1) (s5 : S.1 5 i = nI e) (s7 : S.1 7 i = nI (2 * pb)) (u4 : S.1 4 i2 = 12) (u5 : S.1 5 i2 = nI i) (t1 : T.1 78 j2 = 34) (t7 : T.1 107 j2 = nI pb) (hii : i < i2) (hi' : i2 < N) (hj : j2 < M) (hhc : hc + 3 ≤ 9682) : ∃ p : CP (Nat → Nat → Int32), BU p ∧ (∃ A2, CGo l Gr n w d 1 A (kEnd A2) ∧ OSk (p.1 A).2 (zi A 45 16 (nI (i2 + 1))) A2 (hc * w) w (bw w r) a z (p.1 A).1) ∧ ∀ B, XS w Av S T 0 0 0 0 0 i2 (hc + 2) 2 st A B → OAs w [0, r] hc 0 A B → mWF VFf p B ∧ ∃ B1, MGo l Gr n w d B j2 B1 (j2 + 1) ∧ OSm (p.2 B).2 B B1 0 (bw w r) a z (p.2 B).1 := by
  obtain ⟨q1, q2, q3, q4, q5, q6, q7, q8, q9, q10, q11, q12, q13, q14⟩ := ra
  have hN := cx.2.1
  have hM := cx.2.2.2
  have kk := nk q7 q2
  have hmx : max 1 z = z := by omega
  have mw : (hc + 1) * w = hc * w + w := Nat.succ_mul _ _
  have cA : ∀ c u, (4 ≤ c ∧ c ≤ 7) ∨ (11 ≤ c ∧ c ≤ 15) → (zi A 45 16 (nI (i2 + 1))).1 c u = S.1 c u := fun c u h => by rw [zi_c (by omega)]; exact h0.1.1.2 c u (by omega)
  have pbc : nI (2 * pb) = 0 ↔ pb = 0 := by
    rw [show (0 : Int32) = nI 0 from rfl, nI_eq (by omega) (by omega)]
    omega
  have pbm : nI pb = 0 ↔ pb = 0 := nI_eq (b := 0) (by omega) (by omega)
  have e8 : (zi A 45 16 (nI (i2 + 1))).1 45 8 = nI (hc * w + w + w) := by rw [zi_k (by decide), ← mw, ← Nat.succ_mul]; exact h0.1.2.2.2.1
  have hb8 : hc * w + w + w ≤ 9682 * w := by rw [← mw, ← Nat.succ_mul]; exact Nat.mul_le_mul_right _ (by omega)
  have X57 : ∀ x, x < w → (zi A 45 16 (nI (i2 + 1))).1 57 (hc * w + x) = opf (bw w 0) (A.1 57) (hc * w) x := fun x hx => by rw [zi_c (by decide), opf_at (m := bw w 0) hx]
  have V57 : ∀ x, x < bw w r → (zi A 45 16 (nI (i2 + 1))).1 57 (hc * w + w + x) = opf (bw w r) (A.1 57) ((hc + 1) * w) x := fun x hx => by rw [zi_c (by decide), opf_at (m := bw w r) hx, mw]
  have L58 : ∀ k x, k < z → x < bw w r → (zi A 45 16 (nI (i2 + 1))).1 58 ((a + k) * w + x) = Lf z (bw w r) (fun k x => A.1 58 ((a + k) * w + x)) k x := fun k x hk hx => by rw [zi_c (by decide), Lf_at hk hx]
  have cl : ∀ (p : CP (Nat → Nat → Int32)), zMv l Gr (zc n w) 168 M_Builder_buildStatement (d + 11) [.ref 77, .int (nI i2), .int 12] (zi A 45 16 (nI (i2 + 1))) (fun A' => OSk (p.1 A).2 (zi A 45 16 (nI (i2 + 1))) A' (hc * w) w (bw w r) a z (p.1 A).1) → ∃ A2, CGo l Gr n w d 1 A (kEnd A2) ∧ OSk (p.1 A).2 (zi A 45 16 (nI (i2 + 1))) A2 (hc * w) w (bw w r) a z (p.1 A).1 := fun p q => by
    obtain ⟨A2, o2, run⟩ := zMv_det q
    exact ⟨A2, ck_1 (z := 12) (e := 2) hg ho hw cx h0 hi' u4 (by omega) rfl (by omega) (by omega) (kg_S (l := l) (n := n) (d := d) hg (by omega) run), o2⟩
  have mo : ∀ B, XS w Av S T 0 0 0 0 0 i2 (hc + 2) 2 st A B → OAs w [0, r] hc 0 A B → (∀ c k, (78 ≤ c ∧ c ≤ 81) ∨ c = 89 ∨ (102 ≤ c ∧ c ≤ 107) ∨ c = 117 → B.1 c k = T.1 c k) ∧ (∀ x, x < w → B.1 122 (32 * 0 + x) = opf (bw w 0) (A.1 57) (hc * w) x) ∧ (∀ x, x < bw w r → B.1 122 (32 * (0 + 1) + x) = opf (bw w r) (A.1 57) ((hc + 1) * w) x) ∧ (∀ k x, k < z → x < bw w r → B.1 132 (32 * (a + k) + x) = Lf z (bw w r) (fun k x => A.1 58 ((a + k) * w + x)) k x) ∧ (∀ x, VC B (opf (bw w 0) (A.1 57) (hc * w) x)) ∧ (∀ x, VC B (opf (bw w r) (A.1 57) ((hc + 1) * w) x)) ∧ (∀ k x, VC B (Lf z (bw w r) (fun k x => A.1 58 ((a + k) * w + x)) k x)) ∧ ∀ O : zS → CP (Nat → Nat → Int32) → zS → Prop, ∀ p, zMi l Gr (zc n w) 168 M_Mo_statement (d + 11) [.ref 105, .int (nI j2)] B (fun v B' => v = nI (j2 + 1) ∧ O B p B') → ∃ B1, MGo l Gr n w d B j2 B1 (j2 + 1) ∧ O B p B1 := fun B hB oB => by
    have p0 : OA w 0 hc 0 A B := oB 0 (Nat.succ_pos _)
    have p1 : OA w r (hc + 1) (0 + 1) A B := oB 1 (Nat.succ_lt_succ (Nat.succ_pos _))
    have x0 := opf_eq hw1 p0
    have x1 := opf_eq hw1 p1
    have EB := (hB.2.2.2.2.2.2.2 e a r z q6 q3 q4 q8 q9).2.1 (kk.2.1.mpr rfl)
    rw [hmx] at EB
    refine ⟨hB.2.1.1.2.1, fun x hx => by rw [x0]; exact (opf_at (m := bw w 0) hx).symm, fun x hx => by rw [x1]; exact (opf_at hx).symm, fun k x hk hx => by rw [Lf_at hk hx]; exact (EB.2 k x hk hx).1.symm, fun x => by rw [x0]; exact opf_VC p0 x, fun x => by rw [x1]; exact opf_VC p1 x, fun k x => Lf_VC (fun k x hk hx => by show VC B (A.1 58 ((a + k) * w + x)); rw [(EB.2 k x hk hx).1]; exact (EB.2 k x hk hx).2) k x, fun O p qq => ?_⟩
    obtain ⟨v, B1, ⟨ev, o1⟩, r1⟩ := zMi_det qq
    subst ev
    exact ⟨B1, mg_s (z := 34) hg hj hM (hB.2.1.1.1.trans cx.2.2.1) (XS_7 hB) ((hB.2.1.1.2.1 78 j2 (by omega)).trans t1) (by omega) (by omega) r1, o1⟩
  by_cases h0p : pb = 0
  · refine ⟨stoP w (bw w r) (opf (bw w 0) (A.1 57) (hc * w)) (opf (bw w r) (A.1 57) ((hc + 1) * w)) (Lf z (bw w r) (fun k x => A.1 58 ((a + k) * w + x))) z 0 (Lf z (bw w r) (fun k x => A.1 58 ((a + k) * w + x))), BU_sto _ _ _, cl _ (w_st12N (d := d + 4) (S := A) (r := r) (u := e) hg hw hw1 (by omega) (by omega) (by omega) q3 rfl q4 haz ((cA 5 i2 (by omega)).trans u5) ((cA 5 i (by omega)).trans s5) ((cA 7 i (by omega)).trans (s7.trans (pbc.mpr h0p))) ((cA 12 e (by omega)).trans q8) ((cA 13 e (by omega)).trans q9) ((cA 14 e (by omega)).trans (q10 (by omega))) e8 hb8 X57 V57 L58 KEc_16 h0.2.2.1.1), fun B hB oB => ?_⟩
    obtain ⟨mT, mX, mV, mL, vX, vV, vL, fin⟩ := mo B hB oB
    exact ⟨W_sto _ _ _ B vX vV vL vL, fin (fun B p B1 => OSm (p.2 B).2 B B1 0 (bw w r) a z (p.2 B).1) _ (ms_34N (d := d + 5) (r := r) hg hw hw1 (by omega) q3 rfl (by omega) q4 haz ((mT 78 j2 (by omega)).trans t1) ((mT 103 j2 (by omega)).trans q12) ((mT 104 j2 (by omega)).trans q13) ((mT 105 j2 (by omega)).trans q14) ((mT 107 j2 (by omega)).trans (t7.trans (pbm.mpr h0p))) hB.2.1.2.1 mX mV mL hB.2.2.1.2.1 vX vV vL)⟩
  · have hv := hEI.resolve_left h0p
    refine ⟨cRet (fun k x => if k = nvb (xbo (opf (bw w 0) (A.1 57) (hc * w))) w 0 then opf (bw w r) (A.1 57) ((hc + 1) * w) x else Lf z (bw w r) (fun k x => A.1 58 ((a + k) * w + x)) k x), BU_ret, cl _ (zMv_imp (w_st12P (d := d + 4) (r := r) (u := e) hg hw hw1 (by omega) (by omega) (by omega) q3 rfl q4 haz ((cA 5 i2 (by omega)).trans u5) ((cA 5 i (by omega)).trans s5) (by rw [cA 7 i (by omega), s7]; exact fun y => h0p (pbc.mp y)) ((cA 12 e (by omega)).trans q8) ((cA 14 e (by omega)).trans (q10 (by omega))) e8 hb8 X57 V57 L58 hv) (fun A' h => ⟨KEc_tr KEc_16 h.1, h.2⟩)), fun B hB oB => ?_⟩
    obtain ⟨mT, mX, mV, mL, vX, vV, vL, fin⟩ := mo B hB oB
    refine ⟨mWF_ret (fun k x => ?_), fin (fun B p B1 => OSm (p.2 B).2 B B1 0 (bw w r) a z (p.2 B).1) _ (ms_34P (d := d + 5) (r := r) hg hw hw1 (by omega) q3 rfl (by omega) q4 haz ((mT 78 j2 (by omega)).trans t1) ((mT 103 j2 (by omega)).trans q12) ((mT 105 j2 (by omega)).trans q14) (by rw [mT 107 j2 (by omega), t7]; exact fun y => h0p (pbm.mp y)) hB.2.1.2.1 mX mV mL hv)⟩
    show VC B (if _ then _ else _)
    split
    · exact vV x
    · exact vL k x
theorem elt_mid (hg : ip_gk (lg_tbl, vwCl, Gr)) (ho : ip_old (lg_tbl, vwCl, Gr)) (hw1 : 1 ≤ w) (hw : w ≤ 32) (cx : CTX S T N M) (hD : D ≤ 800) (nu : ∀ x, x ≤ N → ur S x ≤ 30) (h0 : XS w Av S T 0 0 0 0 0 i hc 0 st A B0) (h1 : TRu l Gr n w d Av S T 0 0 0 0 0 [0] ex i i1 j j1 hc 0 st A) (h2 : ∀ A1 B1 st1, XS w Av S T 0 0 0 0 0 (i1 + 1) (hc + 1) 1 st1 A1 B1 → TRx l Gr n w d Av S T 0 0 0 0 0 r (i1 + 1) i2 (j1 + 1) j2 (hc + 1) 1 st1 A1) (ra : RFA D Av S T e j1 1 r z a) (hpb : pb ≤ 1) (s5 : S.1 5 ih = nI e) (s7 : S.1 7 ih = nI (2 * pb)) (u4 : S.1 4 i1 = 26) (u5 : S.1 5 i1 = nI ih) (u6 : S.1 6 i1 = nI q) (t1 : T.1 78 j1 = 42) (t6 : T.1 106 j1 = nI q) (t7 : T.1 107 j1 = nI pb) (hii : ih < i1) (hi' : i1 < N) (hi2N : i2 ≤ N) (hj : j1 < M) (hhc : hc + 2 ≤ 9682) : TRz l Gr n w d (fun st A B => XS w Av S T 0 0 0 0 0 i hc 0 st A B ∧ YE w Av S vw nv vb vq vt u sd no bo A B) (fun st A B => XS w Av S T 0 0 0 0 0 i2 (hc + 2) 2 st A B ∧ OAs w [0, r] hc 0 A B ∧ YE w Av S vw nv vb vq vt u sd no bo A B ∧ (pb = 0 ∨ nvb (xbo (opf (bw w 0) (A.1 57) (hc * w))) w 0 < z)) (SF w Cx Av hc sd u nv vw lo hi) 0 j j2 st A := by
  obtain ⟨q1, q2, q3, q4, q5, q6, q7, q8, q9, q10, q11, q12, q13, q14⟩ := ra
  have hN := cx.2.1
  have hM := cx.2.2.2
  have hst := h0.2.2.2.2.1
  obtain ⟨k1, A1, g1, kb1, ⟨st1, s1, b1, m1⟩ | ⟨b1, m1⟩⟩ := h1
  rotate_left
  · exact ⟨k1, A1, g1, kb1, Or.inr ⟨by omega, fun B hB => m1 B hB.1⟩⟩
  have b1 : k1 + 69 * 1 + ex ≤ 120 * (st1 - st) := b1
  obtain ⟨B01, -, -, -, -, x01, o01⟩ := m1 B0 h0
  have x01 : XS w Av S T 0 0 0 0 0 i1 (hc + 1) 1 st1 A1 B01 := x01
  have hst1 := x01.2.2.2.2.1
  have cA : ∀ c u, (4 ≤ c ∧ c ≤ 7) ∨ (11 ≤ c ∧ c ≤ 15) → (zi A1 45 16 (nI (i1 + 1))).1 c u = S.1 c u := fun c u h => by rw [zi_c (by omega)]; exact x01.1.1.2 c u (by omega)
  have pbc : nI (2 * pb) = 0 ↔ pb = 0 := by
    rw [show (0 : Int32) = nI 0 from rfl, nI_eq (by omega) (by omega)]
    omega
  have pbm : nI pb = 0 ↔ pb = 0 := nI_eq (b := 0) (by omega) (by omega)
  obtain ⟨A2, q26, run26⟩ := zMv_det (w_chk (l := l) (n := n) (d := d + 4) (A := zi A1 45 16 (nI (i1 + 1))) (j := i1) (i := ih) (u := e) (z := z) (a := hc * w) (X := opf (bw w 0) (A1.1 57) (hc * w)) hg hw (by omega) (by omega) (by omega) q4 ((cA 5 i1 (by omega)).trans u5) ((cA 5 ih (by omega)).trans s5) (by rw [zi_k (by decide), ← hc2]; exact x01.1.2.2.2.1) (hcw (by omega)) ((cA 13 e (by omega)).trans q9) (fun x hx => by rw [zi_c (by decide), opf_at (m := bw w 0) hx]))
  have g26 := ck_1 (z := 26) (e := 1) hg ho hw cx x01 hi' u4 (by omega) rfl (by omega) (by omega) (kg_F (l := l) (n := n) (d := d) hg (by omega) (by omega) run26)
  have n7 : (zi A1 45 16 (nI (i1 + 1))).1 7 ih = nI (2 * pb) := (cA 7 ih (by omega)).trans s7
  have r42 : ∀ B, XS w Av S T 0 0 0 0 0 i1 (hc + 1) 1 st1 A1 B → OAs w [0] hc 0 A1 B → zMi l Gr (zc n w) 168 M_Mo_statement (d + 11) [.ref 105, .int (nI j1)] B (fun v B' => v = nI (j1 + 1) ∧ (pb = 0 ∨ nvb (xbo (opf (bw w 0) (A1.1 57) (hc * w))) w 0 < z → B' = B) ∧ (¬ pb = 0 → ¬ nvb (xbo (opf (bw w 0) (A1.1 57) (hc * w))) w 0 < z → B' = mT B 7 (nI q))) := fun B hB oB => by
    have p0 : OA w 0 hc 0 A1 B := oB 0 (Nat.succ_pos _)
    have x0 := opf_eq hw1 p0
    have mT' := hB.2.1.1.2.1
    refine zMi_imp (ms_42 (d := d + 5) (q := 0) (z := z) (X := opf (bw w 0) (A1.1 57) (hc * w)) hg hw (by omega) (by omega) q4 ((mT' 78 j1 (by omega)).trans t1) ((mT' 104 j1 (by omega)).trans q13) hB.2.1.2.1 (fun x hx => by rw [x0]; exact (opf_at (m := bw w 0) hx).symm)) (fun v B' h => ⟨h.1, fun y => h.2.1 (by rw [mT' 107 j1 (by omega), t7, pbm]; exact y), fun y1 y2 => ?_⟩)
    rw [h.2.2 (by rw [mT' 107 j1 (by omega), t7, pbm]; exact y1) y2, mT' 106 j1 (by omega), t6]
  by_cases ei : pb = 0 ∨ nvb (xbo (opf (bw w 0) (A1.1 57) (hc * w))) w 0 < z
  · have ea : A2 = zi A1 45 16 (nI (i1 + 1)) := q26.1 (by rw [n7, pbc]; exact ei)
    rw [ea, kEnd_g (st := st1) (by rw [zi_c (by decide)]; exact x01.1.2.2.1) (by rw [zi_k (by decide)]; exact x01.1.2.2.2.2.2.1) hst1] at g26
    have fN : FK (PXc w hc 0) A1 (zi A1 45 16 (nI (i1 + 1))) := FK_zi (P := PXc w hc 0) (Or.inl ⟨rfl, Or.inr (Or.inl rfl)⟩)
    have n42 : ∀ B, XS w Av S T 0 0 0 0 0 i1 (hc + 1) 1 st1 A1 B → OAs w [0] hc 0 A1 B → MGo l Gr n w d B j1 B (j1 + 1) := fun B hB oB => mg_s (z := 42) hg hj hM (hB.2.1.1.1.trans cx.2.2.1) (XS_7 hB) ((hB.2.1.1.2.1 78 j1 (by omega)).trans t1) (by omega) (by omega) (zMi_imp (r42 B hB oB) (fun v B' h => ⟨h.1, h.2.1 ei⟩))
    obtain ⟨k2, A3, g3, kb3, ⟨st2, s2, b2, m2⟩ | ⟨b2, m2⟩⟩ := h2 _ _ st1 (XS_nop (i1 := i1 + 1) hw1 hw x01)
    · have b2 : k2 + 100 ≤ 120 * (st2 - st1) + ur S i2 := b2
      have hu := nu i2 hi2N
      refine ⟨k1 + (1 + k2), A3, CGo_tr g1 (CGo_tr g26 g3), KBc_tr kb1 (KBc_tr (KBc_F fN) kb3), Or.inl ⟨st2, by omega, by omega, fun B hB => ?_⟩⟩
      obtain ⟨B1, n1, f1, e1, v1, x1, o1⟩ := m1 B hB.1
      obtain ⟨B2, n2, f2, e2, v2, x2, o2⟩ := m2 B1 (XS_nop (i1 := i1 + 1) hw1 hw x1)
      have x1' : XS w Av S T 0 0 0 0 0 i1 (hc + 1) 1 st1 A1 B1 := x1
      have oN : OAs w [0] hc 0 (zi A1 45 16 (nI (i1 + 1))) B1 := fun t ht x hx => by rw [zi_c (by decide)]; exact o1 t ht x hx
      have fT : FK (PXc w hc 0) A A3 := FX_tr (FX_tr f1 fN (Nat.le_refl _)) f2 (by omega)
      have eT : FM (PXm 0 0) B B2 := FXm_tr e1 e2 (by omega)
      refine ⟨B2, MGo_tr n1 (MGo_tr (n42 B1 x1' o1) n2), ⟨x2, fun t ht => ?_, YE_k hB.2 fT eT (VM_tr v1 v2), ?_⟩, SF_x fT eT (VM_tr v1 v2) (Nat.le_refl _)⟩
      · have ht : t < 2 := ht
        by_cases y : t < 1
        · have : t = 0 := by omega
          subst this
          exact OAs_k (os := [0]) hw1 hw oN f2 e2 v2 0 (Nat.succ_pos _)
        · have : t = 1 := by omega
          subst this
          exact o2 0 (Nat.succ_pos _)
      · rw [show opf (bw w 0) (A3.1 57) (hc * w) = opf (bw w 0) (A1.1 57) (hc * w) from funext fun x => ?_]
        · exact ei
        · unfold opf
          split
          · rename_i hx
            have hx : x < w := hx
            have : (hc + 1) * w = hc * w + w := Nat.succ_mul _ _
            rw [f2.1 57 _ (by omega) (by omega) (by unfold PXc; omega), zi_c (by decide)]
          · rfl
    · refine ⟨k1 + (1 + k2), A3, CGo_tr g1 (CGo_tr g26 g3), KBc_tr kb1 (KBc_tr (KBc_F fN) kb3), Or.inr ⟨by omega, fun B hB => ?_⟩⟩
      obtain ⟨B1, n1, f1, e1, v1, x1, o1⟩ := m1 B hB.1
      obtain ⟨B2, j3, n2, kb, fb⟩ := m2 B1 (XS_nop (i1 := i1 + 1) hw1 hw x1)
      exact ⟨B2, j3, MGo_tr n1 (MGo_tr (n42 B1 x1 o1) n2), KBm_tr (KBm_F e1) kb, fb⟩
  · have hp : ¬ pb = 0 := fun y => ei (Or.inl y)
    have hv : ¬ nvb (xbo (opf (bw w 0) (A1.1 57) (hc * w))) w 0 < z := fun y => ei (Or.inr y)
    have e2 := q26.2 (by rw [n7]; exact fun y => hp (pbc.mp y)) hv
    have f5 : (zi A1 45 16 (nI (i1 + 1))).1 3 5 = 0 := by rw [zi_c (by decide)]; exact x01.1.2.1
    have kt := kT_0 (g := 7) (pl := (zi A1 45 16 (nI (i1 + 1))).1 6 i1) f5
    rw [kEnd_g (A := A2) (st := st1) (by rw [e2, kT_n (by decide), zi_c (by decide)]; exact x01.1.2.2.1) (by rw [e2, kT_n (by decide), zi_k (by decide)]; exact x01.1.2.2.2.2.2.1) hst1] at g26
    refine ⟨k1 + 1, A2, CGo_tr g1 g26, KBc_tr kb1 ?_, Or.inr ⟨by omega, fun B hB => ?_⟩⟩
    · rw [e2]
      refine KBc_tr (A1 := zi A1 45 16 (nI (i1 + 1))) ⟨fun c k q1 q2 q3 => ?_, fun _ _ _ => rfl⟩ KBc_T
      rw [zi_c (by omega)]
    · obtain ⟨B1, n1, f1, e1, v1, x1, o1⟩ := m1 B hB.1
      have x1' : XS w Av S T 0 0 0 0 0 i1 (hc + 1) 1 st1 A1 B1 := x1
      have n42 : MGo l Gr n w d B1 j1 (mT B1 7 (nI q)) (j1 + 1) := mg_s (z := 42) hg hj hM (x1'.2.1.1.1.trans cx.2.2.1) (XS_7 x1') ((x1'.2.1.1.2.1 78 j1 (by omega)).trans t1) (by omega) (by omega) (zMi_imp (r42 B1 x1' o1) (fun v B' h => ⟨h.1, h.2.2 hp hv⟩))
      have mt := mT_ff (f := 7) (pl := nI q) (XS_7 x1')
      refine ⟨_, _, MGo_tr n1 n42, KBm_tr (KBm_F e1) KBm_T, by rw [e2, kt.1]; decide, by rw [mt.1, e2, kt.1], ?_⟩
      rw [mt.2, e2, kt.2, zi_c (by decide), x01.1.1.2 6 i1 (by omega), u6]
end YEL
