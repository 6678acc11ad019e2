/-! BUILD on both sides: shifts, bit( , ) -/
section XSH
variable {l : Launch} {Gr : zG} {n w : Nat} {d : Nat} {Av : Nat → Nat → Prop} {S S' T A A' A1 A2 B B' B0 B1 B2 : zS} {cf rf cd hb hrb i i' hc hr st r ex i1 i2 i3 j j' j1 j2 j3 N M z e D a m o r1 v q : Nat} {os : List Nat} {X Y F F' O : Nat → Int32} {R : zS → Prop} {x x1 f pl : Int32}
theorem kT_n {c k : Nat} (h : c ≠ 3) : (kT A f pl).1 c k = A.1 c k := by
  unfold kT
  split
  · unfold cF
    rw [zi_c h, zi_c h]
  · rfl
theorem VC_shf (h : ∀ j, VC B (X j)) (j : Nat) : VC B (shfF w o v X j) := by
  unfold shfF
  split
  · split
    · exact VC_c2
    · exact h _
  · split
    · exact h _
    · exact VC_c2
theorem KBm_T {f pl : Int32} : KBm B (mT B f pl) := by
  unfold mT
  split
  · exact ⟨fun c k q1 q2 q3 => by unfold mF; rw [zi_get, if_neg (by omega), zi_get, if_neg (by omega)], fun _ _ _ => rfl⟩
  · exact KBm_rfl
theorem mT_ff (h : B.1 73 7 = 0) : (mT B f pl).1 73 7 = f ∧ (mT B f pl).1 73 8 = pl := by
  unfold mT
  rw [if_pos h]
  exact mF_f
theorem lx_shf (hg : ip_gk (lg_tbl, vwCl, Gr)) (ho : ip_old (lg_tbl, vwCl, Gr)) (hw1 : 1 ≤ w) (hw : w ≤ 32) (cx : CTX S T N M) (h0 : XS w Av S T cf rf cd hb hrb i hc hr st A B0) (h1 : TRu l Gr n w d Av S T cf rf cd hb hrb [0, 0] 0 i i2 j j2 hc hr st A) (hoo : o = 12 ∨ o = 13) (s4 : S.1 4 i2 = nI (37 + o)) (s7 : S.1 7 i2 = nI q) (t1 : T.1 78 j2 = 13) (t2 : T.1 79 j2 = nI o) (t3 : T.1 106 j2 = nI q) (hi : i2 < N) (hj : j2 < M) (hhc : hc + 3 ≤ 9682) (hhr : hr + 1 < 4200) : TRx l Gr n w d Av S T cf rf cd hb hrb 0 i (i2 + 1) j (j2 + 1) hc hr st A := by
  refine TRg_fin2 hw1 hw h0 h1 (fun k st' s1 s2 b => ?_) (fun k st' s1 s2 b => ?_) (fun A1 st1 B1 xA oA => ?_)
  · have b : k + 69 * 2 + 0 ≤ 120 * (st' - st) := b
    omega
  · have b : k + 69 * 2 + 0 ≤ 120 * (st' - st) := b
    omega
  · have o0 : OA w 0 hc hr A1 B1 := oA 0 (Nat.succ_pos _)
    have o1 : OA w 0 (hc + 1) (hr + 1) A1 B1 := oA 1 (Nat.succ_lt_succ (Nat.succ_pos _))
    have e8 : (zi A1 45 16 (nI (i2 + 1))).1 45 8 = nI (hc * w + w + w) := by rw [zi_k (by decide), ← hc3]; exact xA.1.2.2.2.1
    have hb3 : hc * w + w + w ≤ 9682 * w := by have := hcs (w := w) (hc := hc) (u := 1) (by omega); rw [hc2] at this; exact this
    have hN := cx.2.1
    have hM := cx.2.2.2
    have e1 : oRow2 (37 + o) = nI 2 := oR2 (by omega) (by omega)
    obtain ⟨A2, q2, run⟩ := zMv_det (w_shf (l := l) (n := n) (d := d + 6) (A := zi A1 45 16 (nI (i2 + 1))) (i := i2) (o := o) (a := hc * w) (X := opf (bw w 0) (A1.1 57) (hc * w)) (Y := opf (bw w 0) (A1.1 57) ((hc + 1) * w)) hg hw (by omega) hoo (by rw [zi_c (by decide), xA.1.1.2 4 i2 (by omega)]; exact s4) e8 hb3 (fun x hx => by rw [zi_c (by decide), opf_at (m := bw w 0) hx]) (fun x hx => by rw [zi_c (by decide), opf_at (m := bw w 0) hx, hc2]))
    have g := ck_1 (z := 37 + o) (e := 2) hg ho hw cx xA hi s4 (by omega) e1 (by show 2 ≤ hc + 2; omega) (by show hc + 2 + 1 ≤ _; omega) (kg_O (l := l) (n := n) (d := d) hg (by omega) (by omega) run)
    have ref : ∀ B, XS w Av S T cf rf cd hb hrb i2 (hc + 2) (hr + 2) st1 A1 B → OAs w [0, 0] hc hr A1 B → ∃ B2, ((nvb (xbo (opf (bw w 0) (A1.1 57) ((hc + 1) * w))) w 0 < w → OPd B B B2 hr w (shfF w o (nvb (xbo (opf (bw w 0) (A1.1 57) ((hc + 1) * w))) w 0) (opf (bw w 0) (A1.1 57) (hc * w)))) ∧ (¬ nvb (xbo (opf (bw w 0) (A1.1 57) ((hc + 1) * w))) w 0 < w → B2 = mT B 7 (B.1 106 j2))) ∧ MGo l Gr n w d B j2 B2 (j2 + 1) := fun B hB oB => by
      have p0 : OA w 0 hc hr A1 B := oB 0 (Nat.succ_pos _)
      have p1 : OA w 0 (hc + 1) (hr + 1) A1 B := oB 1 (Nat.succ_lt_succ (Nat.succ_pos _))
      rw [opf_eq hw1 p0, opf_eq hw1 p1]
      exact mk_1 (l := l) (n := n) (w := w) (d := d) (z := 13) hg cx hB.2.1.1 (XS_7 hB) hj t1 (by omega) (mo_13 (d := d + 5) hg (by omega) ((hB.2.1.1.2.1 78 j2 (by omega)).trans t1) (wm_shf (d := d + 5) (q := hr) (o := o) (X := opf (bw w 0) (B.1 122) (32 * hr)) (Y := opf (bw w 0) (B.1 122) (32 * (hr + 1))) hg hw hhr (by omega) hoo ((hB.2.1.1.2.1 79 j2 (by omega)).trans t2) hB.2.1.2.1 (fun x hx => (opf_at (m := bw w 0) hx).symm) (fun x hx => (opf_at (m := bw w 0) hx).symm)))
    by_cases hv : nvb (xbo (opf (bw w 0) (A1.1 57) ((hc + 1) * w))) w 0 < w
    · refine Or.inl ⟨cRet (shfF w o (nvb (xbo (opf (bw w 0) (A1.1 57) ((hc + 1) * w))) w 0) (opf (bw w 0) (A1.1 57) (hc * w))), BU_ret, ⟨A2, g, OPk_S KEc_16 (q2.1 hv)⟩, fun B hB oB => ?_⟩
      obtain ⟨B2, qb, gb⟩ := ref B hB oB
      have p0 : OA w 0 hc hr A1 B := oB 0 (Nat.succ_pos _)
      exact ⟨mWF_ret (fun j => VC_shf (fun j => by rw [opf_eq hw1 p0]; exact opf_VC p0 j) j), B2, gb, qb.1 hv⟩
    · have e2 := q2.2 hv
      have f5 : (zi (zi A1 45 16 (nI (i2 + 1))) 45 8 (nI (hc * w + w))).1 3 5 = 0 := by rw [zi_c (by decide), zi_c (by decide)]; exact xA.1.2.1
      have kt := kT_0 (g := 7) (pl := (zi A1 45 16 (nI (i2 + 1))).1 7 i2) f5
      have ek : kEnd A2 = A2 := kEnd_g (st := st1) (by rw [e2, kT_n (by decide), zi_c (by decide), zi_c (by decide)]; exact xA.1.2.2.1) (by rw [e2, kT_n (by decide), zi_k (by decide), zi_k (by decide)]; exact xA.1.2.2.2.2.2.1) xA.2.2.2.2.1
      rw [ek] at g
      refine Or.inr ⟨A2, g, ?_, fun B hB oB => ?_⟩
      · rw [e2]
        refine KBc_tr (A1 := zi (zi A1 45 16 (nI (i2 + 1))) 45 8 (nI (hc * w + w))) ⟨fun c k q1 q2 q3 => ?_, fun _ _ _ => rfl⟩ KBc_T
        rw [zi_c (by omega), zi_c (by omega)]
      · obtain ⟨B2, qb, gb⟩ := ref B hB oB
        have mt := mT_ff (f := 7) (pl := B.1 106 j2) (XS_7 hB)
        refine ⟨B2, _, gb, by rw [qb.2 hv]; exact KBm_T, by rw [e2, kt.1]; decide, by rw [qb.2 hv, mt.1, e2, kt.1], ?_⟩
        rw [qb.2 hv, mt.2, e2, kt.2, zi_c (by decide), xA.1.1.2 7 i2 (by omega), s7, hB.2.1.1.2.1 106 j2 (by omega), t3]
theorem w_take (hg : ip_gk (lg_tbl, vwCl, Gr)) (hw : w ≤ 32) (hw1 : 1 ≤ w) (hi : i < 4000) (h8 : A.1 45 8 = nI (a + w + w)) (ha : a + w + w ≤ 9682 * w) (hX : ∀ j, j < w → A.1 57 (a + j) = X j) (hY : ∀ j, j < w → A.1 57 (a + w + j) = Y j) : zMv l Gr (zc n w) 168 M_Builder_buildFactor (d + 7) [.ref 77, .int (nI i), .int 33] A (fun A' => (nvb (xbo Y) w 0 < w → OPk A A A' a w 1 (fun _ => X (nvb (xbo Y) w 0))) ∧ (¬ nvb (xbo Y) w 0 < w → A' = kT (zi A 45 8 (nI (a + w))) 7 (A.1 6 i))) := by
  have hmul : 9682 * w ≤ 9682 * 32 := Nat.mul_le_mul_left _ hw
  have e8 : A.1 45 8 - nI w = nI (a + w) := by rw [h8, nI_subb]
  refine e_Builder_buildFactor (kf_0 (z := 33) (by omega) (by omega) (by omega) (by omega) (by omega) (by omega) (by omega) (by omega) (by omega) (fun _ => b_Builder_buildFactor_250 hg (R := fun A' => (nvb (xbo Y) w 0 < w → OPk A A A' a w 1 (fun _ => X (nvb (xbo Y) w 0))) ∧ (¬ nvb (xbo Y) w 0 < w → A' = kT (zi A 45 8 (nI (a + w))) 7 (A.1 6 i))) (e_Builder_takeBit (b_Builder_takeBit_0 hg (R := fun v A' => v = Int64.ofNat (nvb (xbo Y) w 0) ∧ A' = zi A 45 8 (nI (a + w))) (by rw [e8]; exact w_numb (a := a + w) hw (by omega) (fun j hj => by rw [zi_c (by decide)]; exact hY j hj)) (fun v A1 k1 => ?_))) (fun A' k => b_Builder_buildFactor_255 (b_Builder_buildFactor_258 ⟨rfl, k⟩))) (by omega))
  rw [k1.1, k1.2]
  have e82 : (zi A 45 8 (nI (a + w))).1 45 8 - nI w = nI a := by rw [zi_get, if_pos ⟨rfl, rfl⟩, nI_subb]
  refine b_Builder_takeBit_28 (fun z => ?_) (fun z => ?_)
  · have hv := (cm_w hw (nvb_62 hw)).mp z
    refine b_Builder_takeBit_58 ?_ (by rw [e82]; exact vp_in_nI (by omega) (by omega)) ⟨rfl, fun _ => ?_, fun y => absurd hv y⟩
    · rw [e82, show (Int64.ofNat (nvb (xbo Y) w 0)).toInt32 = nI (nvb (xbo Y) w 0) from lN_i _, nI_add]
      exact vp_in_nI (by omega) (by omega)
    · rw [e82, show (Int64.ofNat (nvb (xbo Y) w 0)).toInt32 = nI (nvb (xbo Y) w 0) from lN_i _, nI_add, nI_clamp (by omega), nI_clamp (by omega), show (zi A 45 8 (nI (a + w))).1 57 (a + nvb (xbo Y) w 0) = X (nvb (xbo Y) w 0) by rw [zi_c (by decide)]; exact hX _ hv]
      refine ⟨KEc_zi (KEc_zi KEc_rfl (by omega)) (by omega), FK_tr (P'' := PKs a) (FK_zi (P := PKs a) (Or.inl ⟨rfl, rfl⟩)) (FK_zi (P := PKs a) (PKs_s (Nat.le_refl _))) (fun _ _ z => z) (fun _ _ z => z), by rw [zi_c (by decide), zi_get, if_pos ⟨rfl, rfl⟩], fun x hx => ?_⟩
      have : x = 0 := by omega
      subst this
      rw [zi_get, if_pos ⟨rfl, rfl⟩]
  · have hv := fun q => z ((cm_w hw (nvb_62 hw)).mpr q)
    refine b_Builder_takeBit_39 hg (vp_in_nI hi (by omega)) w_tl (fun A' k => b_Builder_takeBit_57 ⟨rfl, fun y => absurd y hv, fun _ => ?_⟩)
    rw [k, nI_clamp (by omega), zi_c (by decide)]
theorem mo_11 (hg : ip_gk (lg_tbl, vwCl, Gr)) (hw : w ≤ 32) (hq : hr + 1 < 4200) (hj : j < 12000) (h78 : B.1 78 j = 11) (h85 : B.1 73 85 = nI (hr + 2)) (hX : ∀ i, i < w → B.1 122 (32 * hr + i) = X i) (hY : ∀ i, i < w → B.1 122 (32 * (hr + 1) + i) = Y i) : zMi l Gr (zc n w) 168 M_Mo_operand (d + 6) [.ref 105, .int (nI j)] B (fun v B' => v = nI (j + 1) ∧ (nvb (xbo Y) w 0 < w → OPd B B B' hr 1 (fun _ => X (nvb (xbo Y) w 0))) ∧ (¬ nvb (xbo Y) w 0 < w → B' = mT B 7 (B.1 106 j))) := by
  have e85 : B.1 73 85 - 1 = nI (hr + 1) := by rw [h85, nI_pred]
  refine e_Mo_operand (mo_0 (z := 11) hj h78 (by omega) (by omega) (by omega) (by omega) (by omega) (by omega) (by omega) (by omega) (fun _ => b_Mo_operand_246 hg (R := fun v B' => v = Int64.ofNat (nvb (xbo Y) w 0) ∧ B' = B) (by rw [e85]; exact wm_worth hw hq hY) (fun v B1 k1 => ?_)) (by omega) (by omega) (by omega) (by omega))
  rw [k1.1, k1.2]
  refine b_Mo_operand_256 (fun z => ?_) (fun z => ?_)
  · have hv := (cm_w hw (nvb_62 hw)).mp z
    refine b_Mo_operand_282 hg (R := fun B' => MEc B B' ∧ FM (fun c i => (c = 73 ∧ i = 85) ∨ (c = 123 ∧ i < 40)) (zi B 73 85 (nI (hr + 1))) B' ∧ B'.1 73 85 = nI hr ∧ ∀ i, i < w → B'.1 123 i = X i) (by rw [e85]; exact wm_popX hw (by omega) (MEc_85 MEc_rfl) (by rw [zi_get, if_pos ⟨rfl, rfl⟩]) (fun i hi => by rw [zi_c (by decide)]; exact hX i hi)) (fun B2 k2 => ?_)
    have e1 : (Int64.ofNat (nvb (xbo Y) w 0)).toInt32 = nI (nvb (xbo Y) w 0) := lN_i _
    refine b_Mo_operand_300 hg (R := fun B' => MEc B B' ∧ FM (fun c i => (c = 73 ∧ i = 85) ∨ (c = 122 ∧ 32 * hr ≤ i ∧ i < 32 * hr + 1)) (zi B2 125 0 (X (nvb (xbo Y) w 0))) B' ∧ B'.1 73 85 = nI (hr + 1) ∧ ∀ i, i < 1 → B'.1 122 (32 * hr + i) = X (nvb (xbo Y) w 0)) (by rw [e1]; exact vp_in_nI (by omega) (by omega)) (by
      rw [e1, nI_clamp (by omega), k2.2.2.2 _ hv, show ((0 : Int32).toNatClampNeg) = 0 from rfl]
      exact wm_pushZ (T := B) (m := 1) (X := fun _ => X (nvb (xbo Y) w 0)) (by omega) (by omega) (MEc_zi k2.1 (by omega)) (by rw [zi_c (by decide)]; exact k2.2.2.1) (fun i hi => by rw [show i = 0 by omega, zi_get, if_pos ⟨rfl, rfl⟩])) (fun B3 k3 => b_Mo_operand_318 (mo_end (R := fun B' => (nvb (xbo Y) w 0 < w → OPd B B B' hr 1 (fun _ => X (nvb (xbo Y) w 0))) ∧ (¬ nvb (xbo Y) w 0 < w → B' = mT B 7 (B.1 106 j))) ⟨fun _ => ⟨k3.1, ?_, k3.2.2.1, k3.2.2.2⟩, fun y => absurd hv y⟩))
    exact FM_tr (P'' := PU hr) (FM_tr (P'' := PU hr) (FM_zi (P := PU hr) (Or.inl ⟨rfl, rfl⟩)) k2.2.1 (fun _ _ z => z) (fun c i z => by unfold PU; omega)) (FM_tr (P'' := PU hr) (FM_zi (P := PU hr) (PU_a (by omega) (by omega) (by omega))) k3.2.1 (fun _ _ z => z) (fun c i z => by unfold PU; omega)) (fun _ _ z => z) (fun _ _ z => z)
  · have hv := fun q => z ((cm_w hw (nvb_62 hw)).mpr q)
    exact b_Mo_operand_267 hg (vp_in_nI (by omega) (by omega)) wm_fl (fun B' k => b_Mo_operand_279 (mo_end (R := fun B' => (nvb (xbo Y) w 0 < w → OPd B B B' hr 1 (fun _ => X (nvb (xbo Y) w 0))) ∧ (¬ nvb (xbo Y) w 0 < w → B' = mT B 7 (B.1 106 j))) ⟨fun y => absurd y hv, fun _ => by rw [k, nI_clamp (by omega)]⟩))
/-- an instruction of the class that does nothing, one of the reference -/
theorem TRu_nop (hg : ip_gk (lg_tbl, vwCl, Gr)) (ho : ip_old (lg_tbl, vwCl, Gr)) (hw1 : 1 ≤ w) (hw : w ≤ 32) (cx : CTX S T N M) (h0 : XS w Av S T cf rf cd hb hrb i hc hr st A B0) (hz : z = 29 ∨ z = 32) (s4 : S.1 4 i1 = nI z) (t1 : T.1 78 j1 = 16) (hl : 1 ≤ os.length) (hi : i1 < N) (hj : j1 < M) (hhc : hc + os.length + 1 ≤ 9682) (h : TRu l Gr n w d Av S T cf rf cd hb hrb os (ex + 1) i i1 j j1 hc hr st A) : TRu l Gr n w d Av S T cf rf cd hb hrb os ex i (i1 + 1) j (j1 + 1) hc hr st A := by
  obtain ⟨k1, A1, g1, kb1, ⟨st1, s1, b1, m1⟩ | ⟨b1, m1⟩⟩ := h
  · obtain ⟨B01, -, -, -, -, x01, o01⟩ := m1 B0 h0
    have b1 : k1 + 69 * os.length + (ex + 1) ≤ 120 * (st1 - st) := b1
    have run : zMv l Gr (zc n w) 168 M_Builder_buildFactor (d + 11) [.ref 77, .int (nI i1), .int (nI z)] (zi A1 45 16 (nI (i1 + 1))) (fun X => X = zi A1 45 16 (nI (i1 + 1))) := w_fcN (d := d + 4) hz
    have g := ck_1 (z := z) (e := 1) hg ho hw cx x01 hi s4 (by omega) (by rcases hz with e | e <;> rw [e] <;> rfl) (by omega) hhc (kg_F (l := l) (n := n) (d := d) hg (by omega) (by omega) run)
    have c8 : (zi A1 45 16 (nI (i1 + 1))).1 45 8 = nI ((hc + os.length) * w) := by rw [zi_k (by decide)]; exact x01.1.2.2.2.1
    have c18 : (zi A1 45 16 (nI (i1 + 1))).1 45 18 = nI st1 := by rw [zi_k (by decide)]; exact x01.1.2.2.2.2.2.1
    have c7 : (zi A1 45 16 (nI (i1 + 1))).1 24 7 = 0 := by rw [zi_c (by decide)]; exact x01.1.2.2.1
    have fA : FK (PXc w (hc + os.length) cd) A1 (zi A1 45 16 (nI (i1 + 1))) := FK_zi (P := PXc w (hc + os.length) cd) (Or.inl ⟨rfl, Or.inr (Or.inl rfl)⟩)
    rw [kEnd_g c7 c18 x01.2.2.2.2.1] at g
    refine ⟨k1 + 1, _, CGo_tr g1 g, KBc_tr kb1 (KBc_F fA), Or.inl ⟨st1, s1, by show k1 + 1 + 69 * os.length + ex ≤ _; omega, fun B hB => ?_⟩⟩
    obtain ⟨B1, n1, f1, e1, v1, x1, o1⟩ := m1 B hB
    refine ⟨B1, MGo_tr n1 (mg_o hg hj cx.2.2.2 (x1.2.1.1.1.trans cx.2.2.1) (XS_7 x1) ((x1.2.1.1.2.1 78 j1 (by omega)).trans t1) (by decide) (mo_nn (d := d + 5) (z := 16) (by have := cx.2.2.2; omega) ((x1.2.1.1.2.1 78 j1 (by omega)).trans t1) (by omega))), FX_tr f1 fA (by omega), e1, v1, XS_k hw1 hw x1 fA (FM_rfl (P := PXm (hr + os.length) cd)) (fun _ h => h) x1.2.2.2.2.2.1 x1.2.2.2.2.2.2.1 (RL_E x1.2.2.1 KEc_16 MEc_rfl) c7 c8 (by rw [zi_get, if_pos ⟨rfl, rfl⟩]) c18 x1.2.1.2.1 x1.2.1.2.2.1 x1.2.2.2.2.1 x1.2.2.2.2.2.1 x1.2.2.2.2.2.2.1, OAs_k hw1 hw o1 fA (FM_rfl (P := PXm (hr + os.length) cd)) (fun _ h => h)⟩
  · exact ⟨k1, A1, g1, kb1, Or.inr ⟨b1, m1⟩⟩
theorem lx_bit (hg : ip_gk (lg_tbl, vwCl, Gr)) (ho : ip_old (lg_tbl, vwCl, Gr)) (hw1 : 1 ≤ w) (hw : w ≤ 32) (cx : CTX S T N M) (h0 : XS w Av S T cf rf cd hb hrb i hc hr st A B0) (h1 : TRu l Gr n w d Av S T cf rf cd hb hrb [0, 0] 0 i i2 j j2 hc hr st A) (s4 : S.1 4 i2 = 33) (s7 : S.1 6 i2 = nI q) (t1 : T.1 78 j2 = 11) (t3 : T.1 106 j2 = nI q) (hi : i2 < N) (hj : j2 < M) (hhc : hc + 3 ≤ 9682) (hhr : hr + 1 < 4200) : TRx l Gr n w d Av S T cf rf cd hb hrb 1 i (i2 + 1) j (j2 + 1) hc hr st A := by
  refine TRg_fin2 hw1 hw h0 h1 (fun k st' s1 s2 b => ?_) (fun k st' s1 s2 b => ?_) (fun A1 st1 B1 xA oA => ?_)
  · have b : k + 69 * 2 + 0 ≤ 120 * (st' - st) := b
    omega
  · have b : k + 69 * 2 + 0 ≤ 120 * (st' - st) := b
    omega
  · have e8 : (zi A1 45 16 (nI (i2 + 1))).1 45 8 = nI (hc * w + w + w) := by rw [zi_k (by decide), ← hc3]; exact xA.1.2.2.2.1
    have hb3 : hc * w + w + w ≤ 9682 * w := by have := hcs (w := w) (hc := hc) (u := 1) (by omega); rw [hc2] at this; exact this
    have hN := cx.2.1
    have hM := cx.2.2.2
    obtain ⟨A2, q2, run⟩ := zMv_det (w_take (l := l) (n := n) (d := d + 4) (A := zi A1 45 16 (nI (i2 + 1))) (i := i2) (a := hc * w) (X := opf (bw w 0) (A1.1 57) (hc * w)) (Y := opf (bw w 0) (A1.1 57) ((hc + 1) * w)) hg hw hw1 (by omega) e8 hb3 (fun x hx => by rw [zi_c (by decide), opf_at (m := bw w 0) hx]) (fun x hx => by rw [zi_c (by decide), opf_at (m := bw w 0) hx, hc2]))
    have g := ck_1 (z := 33) (e := 2) hg ho hw cx xA hi s4 (by omega) rfl (by show 2 ≤ hc + 2; omega) (by show hc + 2 + 1 ≤ _; omega) (kg_F (l := l) (n := n) (d := d) hg (by omega) (by omega) run)
    have ref : ∀ B, XS w Av S T cf rf cd hb hrb i2 (hc + 2) (hr + 2) st1 A1 B → OAs w [0, 0] hc hr A1 B → ∃ B2, ((nvb (xbo (opf (bw w 0) (A1.1 57) ((hc + 1) * w))) w 0 < w → OPd B B B2 hr 1 (fun _ => opf (bw w 0) (A1.1 57) (hc * w) (nvb (xbo (opf (bw w 0) (A1.1 57) ((hc + 1) * w))) w 0))) ∧ (¬ nvb (xbo (opf (bw w 0) (A1.1 57) ((hc + 1) * w))) w 0 < w → B2 = mT B 7 (B.1 106 j2))) ∧ MGo l Gr n w d B j2 B2 (j2 + 1) := fun B hB oB => by
      have p0 : OA w 0 hc hr A1 B := oB 0 (Nat.succ_pos _)
      have p1 : OA w 0 (hc + 1) (hr + 1) A1 B := oB 1 (Nat.succ_lt_succ (Nat.succ_pos _))
      rw [opf_eq hw1 p0, opf_eq hw1 p1]
      exact mk_1 (l := l) (n := n) (w := w) (d := d) (z := 11) hg cx hB.2.1.1 (XS_7 hB) hj t1 (by omega) (mo_11 (d := d + 5) (hr := hr) (X := opf (bw w 0) (B.1 122) (32 * hr)) (Y := opf (bw w 0) (B.1 122) (32 * (hr + 1))) hg hw hhr (by omega) ((hB.2.1.1.2.1 78 j2 (by omega)).trans t1) hB.2.1.2.1 (fun x hx => (opf_at (m := bw w 0) hx).symm) (fun x hx => (opf_at (m := bw w 0) hx).symm))
    by_cases hv : nvb (xbo (opf (bw w 0) (A1.1 57) ((hc + 1) * w))) w 0 < w
    · refine Or.inl ⟨cRet (fun _ => opf (bw w 0) (A1.1 57) (hc * w) (nvb (xbo (opf (bw w 0) (A1.1 57) ((hc + 1) * w))) w 0)), BU_ret, ⟨A2, g, OPk_S KEc_16 (q2.1 hv)⟩, fun B hB oB => ?_⟩
      obtain ⟨B2, qb, gb⟩ := ref B hB oB
      have p0 : OA w 0 hc hr A1 B := oB 0 (Nat.succ_pos _)
      refine ⟨mWF_ret (fun j => ?_), B2, gb, qb.1 hv⟩
      show VC B (opf (bw w 0) (A1.1 57) (hc * w) _)
      rw [opf_eq hw1 p0]
      exact opf_VC p0 _
    · have e2 := q2.2 hv
      have f5 : (zi (zi A1 45 16 (nI (i2 + 1))) 45 8 (nI (hc * w + w))).1 3 5 = 0 := by rw [zi_c (by decide), zi_c (by decide)]; exact xA.1.2.1
      have kt := kT_0 (g := 7) (pl := (zi A1 45 16 (nI (i2 + 1))).1 6 i2) f5
      have ek : kEnd A2 = A2 := kEnd_g (st := st1) (by rw [e2, kT_n (by decide), zi_c (by decide), zi_c (by decide)]; exact xA.1.2.2.1) (by rw [e2, kT_n (by decide), zi_k (by decide), zi_k (by decide)]; exact xA.1.2.2.2.2.2.1) xA.2.2.2.2.1
      rw [ek] at g
      refine Or.inr ⟨A2, g, ?_, fun B hB oB => ?_⟩
      · rw [e2]
        refine KBc_tr (A1 := zi (zi A1 45 16 (nI (i2 + 1))) 45 8 (nI (hc * w + w))) ⟨fun c k q1 q2 q3 => ?_, fun _ _ _ => rfl⟩ KBc_T
        rw [zi_c (by omega), zi_c (by omega)]
      · obtain ⟨B2, qb, gb⟩ := ref B hB oB
        have mt := mT_ff (f := 7) (pl := B.1 106 j2) (XS_7 hB)
        refine ⟨B2, _, gb, by rw [qb.2 hv]; exact KBm_T, by rw [e2, kt.1]; decide, by rw [qb.2 hv, mt.1, e2, kt.1], ?_⟩
        rw [qb.2 hv, mt.2, e2, kt.2, zi_c (by decide), xA.1.1.2 6 i2 (by omega), s7, hB.2.1.1.2.1 106 j2 (by omega), t3]
end XSH
