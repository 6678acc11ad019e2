/-! BUILD on both sides: the last instruction of an EXPR, a STEP, a leaf -/
section XFI
variable {l : Launch} {Gr : zG} {n w : Nat} {d : Nat} {Av : Nat → Nat → Prop} {S T A A' A1 A2 B B' B0 B1 B2 : zS} {cf rf cd hb hrb i i' hc hr st r ex i1 j j1 j2 : Nat} {os : List Nat} {p : CP (Nat → Int32)} {F F' : Nat → Int32}
theorem PKs_PXc {c x : Nat} (h : PKs (hc * w) c x) : PXc w hc cd c x := by
  unfold PKs at h
  unfold PXc
  omega
theorem PU_PX {c x : Nat} (h : PU hr c x) : PXm hr cd c x := by
  unfold PU at h
  unfold PXm
  omega
theorem kEnd_g (h : A.1 24 7 = 0) (h18 : A.1 45 18 = nI st) (hs : st ≤ 100000) : kEnd A = A := by
  unfold kEnd
  rw [if_pos ⟨h, by rw [h18]; exact nI_le (b := 100000) hs (by omega)⟩]
theorem kEnd_b (h : ¬ A.1 24 7 = 0 ∨ ¬ A.1 45 18 ≤ 100000) (h5 : A.1 3 5 = 0) : (kEnd A).1 3 5 = 8 ∧ (kEnd A).1 3 6 = A.1 45 17 := by
  unfold kEnd
  rw [if_neg (fun y => h.elim (fun q => q y.1) (fun q => q y.2))]
  exact kT_0 (g := 8) h5
/-- as OPd; the index's row may change too -/
def PUe (q : Nat) : Nat → Nat → Prop := fun c i => (c = 73 ∧ i = 85) ∨ ((123 ≤ c ∧ c ≤ 130) ∧ i < 40) ∨ c = 146 ∨ (c = 122 ∧ 32 * q ≤ i ∧ i < 32 * q + 32)
def OPe (T B B' : zS) (q m : Nat) (O : Nat → Int32) : Prop := MEc T B' ∧ FM (PUe q) B B' ∧ B'.1 73 85 = nI (q + 1) ∧ ∀ i, i < m → B'.1 122 (32 * q + i) = O i
theorem OPe_d {q m : Nat} {O : Nat → Int32} (h : OPd T B B' q m O) : OPe T B B' q m O := ⟨h.1, FM_mo h.2.1 (fun c i z => by unfold PUe; omega), h.2.2⟩
theorem PUe_PX {c x : Nat} (h : PUe hr c x) : PXm hr cd c x := by
  unfold PUe at h
  unfold PXm
  omega
theorem TRg_fin3 {BD : Nat → Nat → Prop} {kc : Nat} (hw1 : 1 ≤ w) (hw : w ≤ 32) (h0 : XS w Av S T cf rf cd hb hrb i hc hr st A B0) (h1 : TRg l Gr n w d Av S T cf rf cd hb hrb os BD i i1 j j1 hc hr st A) (hb1 : ∀ k st', st ≤ st' → st' ≤ 100000 → BD k st' → k + kc + 100 ≤ 120 * (st' - st) + ur S (i1 + kc)) (hb2 : ∀ k st', st ≤ st' → st' ≤ 100000 → BD k st' → k + kc ≤ 120 * (100001 - st) + 60) (fin : ∀ A1 st1 B1, XS w Av S T cf rf cd hb hrb i1 (hc + os.length) (hr + os.length) st1 A1 B1 → OAs w os hc hr A1 B1 → (∃ p : CP (Nat → Int32), BU p ∧ (∃ A2, CGo l Gr n w d kc A1 (kEnd A2) ∧ OPk (p.1 A1).2 (zi A1 45 16 (nI (i1 + kc))) A2 (hc * w) w (bw w r) (p.1 A1).1) ∧ ∀ B, XS w Av S T cf rf cd hb hrb i1 (hc + os.length) (hr + os.length) st1 A1 B → OAs w os hc hr A1 B → mWF VFs p B ∧ ∃ B2, MGo l Gr n w d B j1 B2 (j1 + 1) ∧ OPe (p.2 B).2 B B2 hr (bw w r) (p.2 B).1) ∨ ∃ kf A2, kf ≤ kc ∧ CGo l Gr n w d kf A1 A2 ∧ KBc A1 A2 ∧ ∀ B, XS w Av S T cf rf cd hb hrb i1 (hc + os.length) (hr + os.length) st1 A1 B → OAs w os hc hr A1 B → ∃ B2 j2, MGo l Gr n w d B j1 B2 j2 ∧ KBm B B2 ∧ FBT A2 B2) : TRx l Gr n w d Av S T cf rf cd hb hrb r i (i1 + kc) j (j1 + 1) hc hr st A := by
  obtain ⟨k1, A1, g1, kb1, ⟨st1, s1, b1, m1⟩ | ⟨b1, m1⟩⟩ := h1
  · obtain ⟨B01, -, -, -, -, x01, o01⟩ := m1 B0 h0
    have hst1 := x01.2.2.2.2.1
    rcases fin A1 st1 B01 x01 o01 with ⟨p, hBU, ⟨A2, g2, K2, F2, h8, hO⟩, mB⟩ | ⟨kf, A2, hkf, g2, kb2, mB⟩
    rotate_left
    · refine ⟨k1 + kf, A2, CGo_tr g1 g2, KBc_tr kb1 kb2, Or.inr ⟨Nat.le_trans (Nat.add_le_add_left hkf k1) (hb2 k1 st1 s1 hst1 b1), fun B hB => ?_⟩⟩
      obtain ⟨B1, n1, f1, e1, v1, x1, o1⟩ := m1 B hB
      obtain ⟨B2, j2, n2, kb, fb⟩ := mB B1 x1 o1
      exact ⟨B2, j2, MGo_tr n1 n2, KBm_tr (KBm_F e1) kb, fb⟩
    have hh := h0.2.2.2.2.2.1
    have hh2 := h0.2.2.2.2.2.2.1
    have fA : FK (PXc w hc cd) A1 A2 := FK_tr (P'' := PXc w hc cd) (FK_zi (P := PXc w hc cd) (Or.inl ⟨rfl, Or.inr (Or.inl rfl)⟩)) F2 (fun _ _ z => z) (fun _ _ z => PKs_PXc z)
    have c16 : A2.1 45 16 = nI (i1 + kc) := by rw [F2.1 45 16 (by omega) (by omega) (by unfold PKs; omega), zi_get, if_pos ⟨rfl, rfl⟩]
    have c18 : A2.1 45 18 = nI st1 := by rw [F2.1 45 18 (by omega) (by omega) (by unfold PKs; omega), zi_k (by decide)]; exact x01.1.2.2.2.2.2.1
    have c17 : A2.1 45 17 = A1.1 45 17 := fA.1 45 17 (by omega) (by omega) (by unfold PXc; omega)
    have c5 : A2.1 3 5 = 0 := (fA.1 3 5 (by omega) (by omega) (by unfold PXc; omega)).trans x01.1.2.1
    have h8' : A2.1 45 8 = nI ((hc + 1) * w) := by rw [Nat.succ_mul]; exact h8
    have com : ∀ B, XS w Av S T cf rf cd hb hrb i1 (hc + os.length) (hr + os.length) st1 A1 B → OAs w os hc hr A1 B → ∃ B2, MGo l Gr n w d B j1 B2 (j1 + 1) ∧ FM (PXm hr cd) B B2 ∧ VM B B2 ∧ RL A2 B2 ∧ B2.1 73 85 = nI (hr + 1) ∧ B2.1 73 70 = B.1 73 70 ∧ (A2.1 24 7 = 0 → OA w r hc hr A2 B2) := fun B xB oB => by
      obtain ⟨hW, B2, n2, M2, G2, h85, hO2⟩ := mB B xB oB
      have rr := r_run2 xB.2.2.1 hBU (fun _ => rfl) hW
      refine ⟨B2, n2, FM_mo G2 (fun _ _ z => PUe_PX z), fun x hx => VC_ME M2 (VC_m rr.2.2.2.2.1 hx), RL_E rr.1 K2 M2, h85, G2.1 73 70 (by omega) (by omega) (by unfold PUe; omega), fun z x hx => ?_⟩
      have e := rr.2.1 (by rw [← K2.1 7 (by omega) (by omega)]; exact z)
      rw [hO x hx, hO2 x hx, e]
      exact ⟨rfl, VC_ME M2 (rr.2.2.1 x)⟩
    by_cases z : A2.1 24 7 = 0
    · refine ⟨k1 + kc, A2, CGo_tr g1 (by rw [← kEnd_g z c18 hst1]; exact g2), KBc_tr kb1 (KBc_F fA), Or.inl ⟨st1, s1, hb1 k1 st1 s1 hst1 b1, fun B hB => ?_⟩⟩
      obtain ⟨B1, n1, f1, e1, v1, x1, o1⟩ := m1 B hB
      obtain ⟨B2, n2, e2, v2, rl, h85, h70, oa⟩ := com B1 x1 o1
      exact ⟨B2, MGo_tr n1 n2, FX_tr f1 fA (Nat.le_refl _), FXm_tr e1 e2 (Nat.le_refl _), VM_tr v1 v2, XS_k hw1 hw x1 fA e2 v2 hh hh2 rl z h8' c16 c18 h85 (h70.trans x1.2.1.2.2.1) hst1 (by show hb ≤ hc + 1; omega) (by show hrb ≤ hr + 1; omega), fun t ht => by
        have : t = 0 := by
          have : t < 1 := ht
          omega
        subst this
        exact oa z⟩
    · have ke := kEnd_b (Or.inl z) c5
      refine ⟨k1 + kc, kEnd A2, CGo_tr g1 g2, KBc_tr kb1 (KBc_tr (KBc_F fA) KBc_E), Or.inr ⟨hb2 k1 st1 s1 hst1 b1, fun B hB => ?_⟩⟩
      obtain ⟨B1, n1, f1, e1, v1, x1, o1⟩ := m1 B hB
      obtain ⟨B2, n2, e2, v2, rl, h85, h70, oa⟩ := com B1 x1 o1
      have dead := rl.2.2.resolve_left (fun y => z y.1)
      refine ⟨B2, _, MGo_tr n1 n2, KBm_tr (KBm_F e1) (KBm_F e2), by rw [ke.1]; decide, by rw [ke.1]; exact dead.2.1, ?_⟩
      rw [ke.2, dead.2.2, mPla_F e2, c17]
      exact x1.2.2.2.1.symm
  · exact ⟨k1, A1, g1, kb1, Or.inr ⟨b1, m1⟩⟩
theorem TRg_fin2 {BD : Nat → Nat → Prop} (hw1 : 1 ≤ w) (hw : w ≤ 32) (h0 : XS w Av S T cf rf cd hb hrb i hc hr st A B0) (h1 : TRg l Gr n w d Av S T cf rf cd hb hrb os BD i i1 j j1 hc hr st A) (hb1 : ∀ k st', st ≤ st' → st' ≤ 100000 → BD k st' → k + 1 + 100 ≤ 120 * (st' - st) + ur S (i1 + 1)) (hb2 : ∀ k st', st ≤ st' → st' ≤ 100000 → BD k st' → k + 1 ≤ 120 * (100001 - st) + 60) (fin : ∀ A1 st1 B1, XS w Av S T cf rf cd hb hrb i1 (hc + os.length) (hr + os.length) st1 A1 B1 → OAs w os hc hr A1 B1 → (∃ p : CP (Nat → Int32), BU p ∧ (∃ A2, CGo l Gr n w d 1 A1 (kEnd A2) ∧ OPk (p.1 A1).2 (zi A1 45 16 (nI (i1 + 1))) A2 (hc * w) w (bw w r) (p.1 A1).1) ∧ ∀ B, XS w Av S T cf rf cd hb hrb i1 (hc + os.length) (hr + os.length) st1 A1 B → OAs w os hc hr A1 B → mWF VFs p B ∧ ∃ B2, MGo l Gr n w d B j1 B2 (j1 + 1) ∧ OPd (p.2 B).2 B B2 hr (bw w r) (p.2 B).1) ∨ ∃ A2, CGo l Gr n w d 1 A1 A2 ∧ KBc A1 A2 ∧ ∀ B, XS w Av S T cf rf cd hb hrb i1 (hc + os.length) (hr + os.length) st1 A1 B → OAs w os hc hr A1 B → ∃ B2 j2, MGo l Gr n w d B j1 B2 j2 ∧ KBm B B2 ∧ FBT A2 B2) : TRx l Gr n w d Av S T cf rf cd hb hrb r i (i1 + 1) j (j1 + 1) hc hr st A := TRg_fin3 (kc := 1) hw1 hw h0 h1 hb1 hb2 (fun A1 st1 B1 x o => (fin A1 st1 B1 x o).elim (fun ⟨p, b, cA, cB⟩ => Or.inl ⟨p, b, cA, fun B xB oB => let ⟨h1, B2, h2, h3⟩ := cB B xB oB; ⟨h1, B2, h2, OPe_d h3⟩⟩) (fun ⟨A2, g, q⟩ => Or.inr ⟨1, A2, Nat.le_refl _, g, q⟩))
theorem TRg_fin {BD : Nat → Nat → Prop} (hw1 : 1 ≤ w) (hw : w ≤ 32) (h0 : XS w Av S T cf rf cd hb hrb i hc hr st A B0) (h1 : TRg l Gr n w d Av S T cf rf cd hb hrb os BD i i1 j j1 hc hr st A) (hb1 : ∀ k st', st ≤ st' → st' ≤ 100000 → BD k st' → k + 1 + 100 ≤ 120 * (st' - st) + ur S (i1 + 1)) (hb2 : ∀ k st', st ≤ st' → st' ≤ 100000 → BD k st' → k + 1 ≤ 120 * (100001 - st) + 60) (fin : ∀ A1 st1 B1, XS w Av S T cf rf cd hb hrb i1 (hc + os.length) (hr + os.length) st1 A1 B1 → OAs w os hc hr A1 B1 → ∃ p : CP (Nat → Int32), BU p ∧ (∃ A2, CGo l Gr n w d 1 A1 (kEnd A2) ∧ OPk (p.1 A1).2 (zi A1 45 16 (nI (i1 + 1))) A2 (hc * w) w (bw w r) (p.1 A1).1) ∧ ∀ B, XS w Av S T cf rf cd hb hrb i1 (hc + os.length) (hr + os.length) st1 A1 B → OAs w os hc hr A1 B → mWF VFs p B ∧ ∃ B2, MGo l Gr n w d B j1 B2 (j1 + 1) ∧ OPd (p.2 B).2 B B2 hr (bw w r) (p.2 B).1) : TRx l Gr n w d Av S T cf rf cd hb hrb r i (i1 + 1) j (j1 + 1) hc hr st A := TRg_fin2 hw1 hw h0 h1 hb1 hb2 (fun A1 st1 B1 x o => Or.inl (fin A1 st1 B1 x o))
/-- a leaf: one instruction of the class, two of the reference -/
theorem TRx_leaf (hg : ip_gk (lg_tbl, vwCl, Gr)) (hw1 : 1 ≤ w) (hw : w ≤ 32) {N M : Nat} (h0 : XS w Av S T cf rf cd hb hrb i hc hr st A B0) (hM : T.1 73 13 = nI M) (hM2 : M ≤ 12000) (hj : j + 1 < M) (hT1 : T.1 78 j = 1) (cl : ∃ A2, CGo l Gr n w d 1 A (kEnd A2) ∧ OPk A (zi (zi A 45 16 (nI (i + 1))) 45 18 (nI (st + 1))) A2 (hc * w) w (bw w r) F) (rf' : ∀ B, XS w Av S T cf rf cd hb hrb i hc hr st A B → ∃ F' B2, MGo l Gr n w d (zi B 73 70 (nI (st + 1))) (j + 1) B2 (j + 2) ∧ OPd B (zi B 73 70 (nI (st + 1))) B2 hr (bw w r) F' ∧ ∀ x, x < bw w r → F x = F' x ∧ VC B (F' x)) : TRx l Gr n w d Av S T cf rf cd hb hrb r i (i + 1) j (j + 2) hc hr st A := by
  obtain ⟨A2, g2, K2, F2, h8, hO⟩ := cl
  have hst := h0.2.2.2.2.1
  have hh := h0.2.2.2.2.2.1
  have hh2 := h0.2.2.2.2.2.2.1
  have fA : FK (PXc w hc cd) A A2 := FK_tr (P'' := PXc w hc cd) (FK_zi (P := PXc w hc cd) (Or.inl ⟨rfl, Or.inr (Or.inl rfl)⟩)) (FK_tr (P'' := PXc w hc cd) (FK_zi (P := PXc w hc cd) (Or.inl ⟨rfl, Or.inr (Or.inr rfl)⟩)) F2 (fun _ _ z => z) (fun _ _ z => PKs_PXc z)) (fun _ _ z => z) (fun _ _ z => z)
  have c16 : A2.1 45 16 = nI (i + 1) := by rw [F2.1 45 16 (by omega) (by omega) (by unfold PKs; omega), zi_k (by decide), zi_get, if_pos ⟨rfl, rfl⟩]
  have c18 : A2.1 45 18 = nI (st + 1) := by rw [F2.1 45 18 (by omega) (by omega) (by unfold PKs; omega), zi_get, if_pos ⟨rfl, rfl⟩]
  have c17 : A2.1 45 17 = A.1 45 17 := fA.1 45 17 (by omega) (by omega) (by unfold PXc; omega)
  have c5 : A2.1 3 5 = 0 := (fA.1 3 5 (by omega) (by omega) (by unfold PXc; omega)).trans h0.1.2.1
  have c7 : A2.1 24 7 = 0 := (K2.1 7 (by omega) (by omega)).trans h0.1.2.2.1
  have h8' : A2.1 45 8 = nI ((hc + 1) * w) := by rw [Nat.succ_mul]; exact h8
  have mst : ∀ B, XS w Av S T cf rf cd hb hrb i hc hr st A B → B.1 73 13 = nI M ∧ B.1 73 7 = 0 ∧ B.1 78 j = nI 1 ∧ MW B := fun B hB => ⟨hB.2.1.1.1.trans hM, by
    rcases hB.2.2.1.2.2 with y | y
    · exact y.2.1
    · exact absurd h0.1.2.2.1 y.1, (hB.2.1.1.2.1 78 j (by omega)).trans hT1, hB.2.2.1.2.1⟩
  by_cases z : st < 100000
  · refine ⟨1, A2, by rw [← kEnd_g c7 c18 (by omega)]; exact g2, KBc_F fA, Or.inl ⟨st + 1, by omega, by show 1 + 100 ≤ _; omega, fun B hB => ?_⟩⟩
    obtain ⟨m1, m2, m3, m4⟩ := mst B hB
    obtain ⟨F', B2, n2, ⟨M2, G2, h85, hO2⟩, hF⟩ := rf' B hB
    have n1 : MGo l Gr n w d B j (zi B 73 70 (nI (st + 1))) (j + 1) := mg_o hg (by omega) hM2 m1 m2 m3 (by omega) (mo_1 (d := d + 5) hg (by omega) m3 (wm_step z hB.2.1.2.2.1))
    have e2 : FM (PXm hr cd) B B2 := FM_tr (P'' := PXm hr cd) (FM_zi (P := PXm hr cd) (Or.inl ⟨rfl, Or.inl rfl⟩)) G2 (fun _ _ z => z) (fun _ _ z => PU_PX z)
    have v2 : VM B B2 := fun x hx => VC_ME M2 hx
    refine ⟨B2, MGo_tr n1 n2, fA, e2, v2, XS_k hw1 hw hB fA e2 v2 hh hh2 (RL_E hB.2.2.1 K2 M2) c7 h8' c16 c18 h85 ?_ (by omega) (by show hb ≤ hc + 1; omega) (by show hrb ≤ hr + 1; omega), fun t ht => ?_⟩
    · rw [G2.1 73 70 (by omega) (by omega) (by omega), zi_get, if_pos ⟨rfl, rfl⟩]
    · have : t = 0 := by
        have : t < 1 := ht
        omega
      subst this
      intro x hx
      show A2.1 57 (hc * w + x) = B2.1 122 (32 * hr + x) ∧ VC B2 (B2.1 122 (32 * hr + x))
      have hx : x < bw w r := hx
      rw [hO x hx, hO2 x hx]
      exact ⟨(hF x hx).1, VC_ME M2 (hF x hx).2⟩
  · have e0 : st = 100000 := by omega
    have ke := kEnd_b (A := A2) (Or.inr (by rw [c18, e0]; decide)) c5
    refine ⟨1, kEnd A2, g2, KBc_tr (KBc_F fA) KBc_E, Or.inr ⟨by omega, fun B hB => ?_⟩⟩
    obtain ⟨m1, m2, m3, m4⟩ := mst B hB
    have n1 : MGo l Gr n w d B j (zi (mF B 8 (mPla B)) 73 70 (nI 100001)) (j + 1) := mg_o hg (by omega) hM2 m1 m2 m3 (by omega) (mo_1 (d := d + 5) hg (by omega) m3 (wm_stepX hg m4.1 m2 (by rw [hB.2.1.2.2.1, e0])))
    refine ⟨_, _, n1, ⟨fun c k q1 q2 q3 => ?_, fun _ _ _ => rfl⟩, by rw [ke.1]; decide, ?_, ?_⟩
    · unfold mF
      rw [zi_get, if_neg (by omega), zi_get, if_neg (by omega), zi_get, if_neg (by omega)]
    · rw [ke.1, zi_k (by decide)]
      exact mF_f.1
    · rw [ke.2, zi_k (by decide), c17]
      exact mF_f.2.trans hB.2.2.2.1.symm
/-- a STEP on both sides, nothing else -/
theorem TRu_step (hg : ip_gk (lg_tbl, vwCl, Gr)) (hw1 : 1 ≤ w) (hw : w ≤ 32) {N M : Nat} (h0 : XS w Av S T cf rf cd hb hrb i hc hr st A B0) (hM : T.1 73 13 = nI M) (hM2 : M ≤ 12000) (hj : j < M) (hT1 : T.1 78 j = 1) (cl : CGo l Gr n w d 1 A (kEnd (zi (zi A 45 16 (nI (i + 1))) 45 18 (nI (st + 1))))) : TRu l Gr n w d Av S T cf rf cd hb hrb [] 119 i (i + 1) j (j + 1) hc hr st A := by
  have hst := h0.2.2.2.2.1
  have hh := h0.2.2.2.2.2.1
  have hh2 := h0.2.2.2.2.2.2.1
  have K2 : KEc A (zi (zi A 45 16 (nI (i + 1))) 45 18 (nI (st + 1))) := KEc_zi (KEc_zi KEc_rfl (by omega)) (by omega)
  have fA : FK (PXc w hc cd) A (zi (zi A 45 16 (nI (i + 1))) 45 18 (nI (st + 1))) := FK_tr (P'' := PXc w hc cd) (FK_zi (P := PXc w hc cd) (Or.inl ⟨rfl, Or.inr (Or.inl rfl)⟩)) (FK_zi (P := PXc w hc cd) (Or.inl ⟨rfl, Or.inr (Or.inr rfl)⟩)) (fun _ _ z => z) (fun _ _ z => z)
  have c16 : (zi (zi A 45 16 (nI (i + 1))) 45 18 (nI (st + 1))).1 45 16 = nI (i + 1) := by rw [zi_k (by decide), zi_get, if_pos ⟨rfl, rfl⟩]
  have c18 : (zi (zi A 45 16 (nI (i + 1))) 45 18 (nI (st + 1))).1 45 18 = nI (st + 1) := by rw [zi_get, if_pos ⟨rfl, rfl⟩]
  have c8 : (zi (zi A 45 16 (nI (i + 1))) 45 18 (nI (st + 1))).1 45 8 = nI (hc * w) := by rw [zi_k (by decide), zi_k (by decide)]; exact h0.1.2.2.2.1
  revert cl K2 fA c16 c18 c8
  generalize zi (zi A 45 16 (nI (i + 1))) 45 18 (nI (st + 1)) = A2
  intro cl K2 fA c16 c18 c8
  have c17 : A2.1 45 17 = A.1 45 17 := fA.1 45 17 (by omega) (by omega) (by unfold PXc; omega)
  have c5 : A2.1 3 5 = 0 := (fA.1 3 5 (by omega) (by omega) (by unfold PXc; omega)).trans h0.1.2.1
  have c7 : A2.1 24 7 = 0 := (K2.1 7 (by omega) (by omega)).trans h0.1.2.2.1
  have mst : ∀ B, XS w Av S T cf rf cd hb hrb i hc hr st A B → B.1 73 13 = nI M ∧ B.1 73 7 = 0 ∧ B.1 78 j = nI 1 ∧ MW B := fun B hB => ⟨hB.2.1.1.1.trans hM, by
    rcases hB.2.2.1.2.2 with y | y
    · exact y.2.1
    · exact absurd h0.1.2.2.1 y.1, (hB.2.1.1.2.1 78 j (by omega)).trans hT1, hB.2.2.1.2.1⟩
  by_cases z : st < 100000
  · refine ⟨1, A2, by rw [← kEnd_g c7 c18 (by omega)]; exact cl, KBc_F fA, Or.inl ⟨st + 1, by omega, by show 1 + 69 * 0 + 119 ≤ _; omega, fun B hB => ?_⟩⟩
    obtain ⟨m1, m2, m3, m4⟩ := mst B hB
    have n1 : MGo l Gr n w d B j (zi B 73 70 (nI (st + 1))) (j + 1) := mg_o hg (by omega) hM2 m1 m2 m3 (by omega) (mo_1 (d := d + 5) hg (by omega) m3 (wm_step z hB.2.1.2.2.1))
    have e2 : FM (PXm hr cd) B (zi B 73 70 (nI (st + 1))) := FM_zi (P := PXm hr cd) (Or.inl ⟨rfl, Or.inl rfl⟩)
    have M2 : MEc B (zi B 73 70 (nI (st + 1))) := ⟨fun k q => by rw [zi_get, if_neg (by omega)], fun c k q => by rw [zi_get, if_neg (by omega)]⟩
    have v2 : VM B (zi B 73 70 (nI (st + 1))) := fun x hx => VC_ME M2 hx
    exact ⟨_, n1, fA, e2, v2, XS_k hw1 hw hB fA e2 v2 hh hh2 (RL_E hB.2.2.1 K2 M2) c7 c8 c16 c18 (by rw [zi_k (by decide)]; exact hB.2.1.2.1) (by rw [zi_get, if_pos ⟨rfl, rfl⟩]) (by omega) hh hh2, fun t ht => absurd ht (by show ¬ t < 0; omega)⟩
  · have e0 : st = 100000 := by omega
    have ke := kEnd_b (A := A2) (Or.inr (by rw [c18, e0]; decide)) c5
    refine ⟨1, kEnd A2, cl, KBc_tr (KBc_F fA) KBc_E, Or.inr ⟨by omega, fun B hB => ?_⟩⟩
    obtain ⟨m1, m2, m3, m4⟩ := mst B hB
    have n1 : MGo l Gr n w d B j (zi (mF B 8 (mPla B)) 73 70 (nI 100001)) (j + 1) := mg_o hg (by omega) hM2 m1 m2 m3 (by omega) (mo_1 (d := d + 5) hg (by omega) m3 (wm_stepX hg m4.1 m2 (by rw [hB.2.1.2.2.1, e0])))
    refine ⟨_, _, n1, ⟨fun c k q1 q2 q3 => ?_, fun _ _ _ => rfl⟩, by rw [ke.1]; decide, ?_, ?_⟩
    · unfold mF
      rw [zi_get, if_neg (by omega), zi_get, if_neg (by omega), zi_get, if_neg (by omega)]
    · rw [ke.1, zi_k (by decide)]
      exact mF_f.1
    · rw [ke.2, zi_k (by decide), c17]
      exact mF_f.2.trans hB.2.2.2.1.symm
/-- the reference passes by what has no meaning of its own -/
theorem TRu_pass (hg : ip_gk (lg_tbl, vwCl, Gr)) {M z : Nat} (hM : T.1 73 13 = nI M) (hM2 : M ≤ 12000) (hj : j1 < M) (hT1 : T.1 78 j1 = nI z) (hz : z = 6 ∨ z = 8 ∨ (15 ≤ z ∧ z < 20)) (h : TRu l Gr n w d Av S T cf rf cd hb hrb os ex i i1 j j1 hc hr st A) : TRu l Gr n w d Av S T cf rf cd hb hrb os ex i i1 j (j1 + 1) hc hr st A := by
  obtain ⟨k1, A1, g1, kb1, ⟨st1, s1, b1, m1⟩ | ⟨b1, m1⟩⟩ := h
  · refine ⟨k1, A1, g1, kb1, Or.inl ⟨st1, s1, b1, fun B hB => ?_⟩⟩
    obtain ⟨B1, n1, f1, e1, v1, x1, o1⟩ := m1 B hB
    refine ⟨B1, MGo_tr n1 ?_, f1, e1, v1, x1, o1⟩
    refine mg_o hg hj hM2 (x1.2.1.1.1.trans hM) ?_ ((x1.2.1.1.2.1 78 j1 (by omega)).trans hT1) (by omega) (mo_nn (d := d + 5) (by omega) ((x1.2.1.1.2.1 78 j1 (by omega)).trans hT1) hz)
    rcases x1.2.2.1.2.2 with y | y
    · exact y.2.1
    · exact absurd x1.1.2.2.1 y.1
  · exact ⟨k1, A1, g1, kb1, Or.inr ⟨b1, m1⟩⟩
end XFI
