/-! def: its PARAMs on both sides -/
abbrev dL (a b c : Option Value) (e : Option Value) : zL := [some (.ref 105), a, b, c, e, none, none, none, none]
abbrev dM (p s v j : Nat) (x : Int32) : zL := [some (.ref 105), some (.int (nI p)), some (.int (nI s)), some (.int (nI v)), some (.int (nI j)), some (.int x), none, none, none]
abbrev dN (p s v j : Nat) : zL := [some (.ref 105), some (.int (nI p)), some (.int (nI s)), some (.int (nI v)), some (.int (nI j)), none, none, none, none]
abbrev DX (l : Launch) (Gr : zG) (n w d : Nat) (T : zS) (p pc : Nat) (L : zL) (T1 : zS) : Prop := ∀ Q, zW l Gr (zc n w) 168 M_Mo_defItem (d + 13) pc L [] T1 Q → zW l Gr (zc n w) 168 M_Mo_defItem (d + 13) 0 [some (.ref 105), some (.int (nI p)), none, none, none, none, none, none, none] [] (zi T 73 6 (nI p)) Q
/-- the class's def number Dn at i, with k PARAMs, ahead of the word at q -/
def DC (b : Nat → Int32) (t : Nat) (S0 S : zS) (p i p1 Dn vw k q : Nat) : Prop := CS b t q (i + 1 + k) 0 S ∧ S.1 8 1 = nI t ∧ S.1 8 9 = nI (Dn + 1 + k) ∧ S.1 34 10 = nI vw ∧ S.1 15 Dn = nI k ∧ SK S0 S i Dn ∧ (S.1 4 i = 3 ∧ S.1 5 i = nI Dn ∧ S.1 6 i = nI p1) ∧ (S.1 9 Dn = nI p1 ∧ S.1 11 Dn = 4 ∧ S.1 13 Dn = 0) ∧ (p + 6 + 5 * k ≤ q ∧ (∀ a, a < k → S.1 4 (i + 1 + a) = 4) ∧ NS b t (Dn + 1 + k) S)
/-- the reference's, the rows of k PARAMs made, at pc -/
def DR (l : Launch) (Gr : zG) (n w d : Nat) (b : Nat → Int32) (t : Nat) (S T : zS) (p i p1 Dn k q j pc : Nat) (L : Nat → zL) : Prop := ∃ v T1 q1 N1, nid b t T1 v p1 ∧ MC b t q1 (j + 1 + k) 0 0 N1 T1 ∧ gp b t q1 = q ∧ PK b t T T1 j 0 ∧ P3 T T1 ∧ nb b t N1 q1 ∧ p + 6 + 5 * k ≤ q1 ∧ j ≤ 3 * p ∧ (T1.1 78 j = 26 ∧ T1.1 79 j = nI v ∧ T1.1 80 j = nI k ∧ T1.1 81 j = nI p1) ∧ (∀ a, a < k → sPar S T1 (nid b t T1) Dn i j a) ∧ DX l Gr n w d T p pc (L v) T1
def DD (l : Launch) (Gr : zG) (n w d : Nat) (b : Nat → Int32) (t : Nat) (S0 S : zS) (p i p1 Dn vw iw k q : Nat) (x : Int32) : Prop := DC b t S0 S p i p1 Dn vw k q ∧ ∀ T qq j N, HS b t qq j 0 N vw iw p T → DR l Gr n w d b t S T p i p1 Dn k q j 76 (fun v => dM p p1 v j x)
/-- behind a PARAM -/
def DQ (l : Launch) (Gr : zG) (n w d : Nat) (b : Nat → Int32) (t : Nat) (S T : zS) (p i p1 Dn k q j pc : Nat) (L : Nat → zL) : Prop := ∃ v T1 N1, nid b t T1 v p1 ∧ MC b t q (j + 1 + k) 0 0 N1 T1 ∧ PK b t T T1 j 0 ∧ P3 T T1 ∧ nb b t N1 q ∧ j ≤ 3 * p ∧ (T1.1 78 j = 26 ∧ T1.1 79 j = nI v ∧ T1.1 80 j = nI k ∧ T1.1 81 j = nI p1) ∧ (∀ a, a < k → sPar S T1 (nid b t T1) Dn i j a) ∧ DX l Gr n w d T p pc (L v) T1
def DO (l : Launch) (Gr : zG) (n w d : Nat) (b : Nat → Int32) (t : Nat) (S0 S : zS) (p i p1 Dn vw iw k q : Nat) : Prop := DC b t S0 S p i p1 Dn vw k q ∧ ∀ T qq j N, HS b t qq j 0 N vw iw p T → DQ l Gr n w d b t S T p i p1 Dn k q j 166 (fun v => dN p p1 v j)
def DF (l : Launch) (Gr : zG) (n w d : Nat) (b : Nat → Int32) (t : Nat) (S0 S : zS) (p vw iw : Nat) (f pl : Int32) : Prop := JB S0 S f pl ∧ ∀ T qq j N, HS b t qq j 0 N vw iw p T → PZ l Gr n w d b t T f pl
section DEF
variable {l : Launch} {Gr : zG} {n w : Nat} {d : Nat} {b : Nat → Int32} {t p i ws dp p' i' q j m N X u k D D' vw iw s e : Nat} {S S' S'' T T' T'' : zS}
theorem w_takeNameN (hg : ip_gk (lg_tbl, vwCl, Gr)) (h : ¬ S.1 3 5 = 0) : zMi l Gr (zc n w) 168 M_Reader_takeName (d + 6) [.ref 66] S (fun _ S' => S' = S) := by
  have fin : zW l Gr (zc n w) 168 M_Reader_takeName (d + 6) 54 [some (.ref 66), some (.int (S.1 38 3))] [] S (fun v S' => ∃ x, v = some (.int x) ∧ S' = S) := b_Reader_takeName_54 (fun _ => b_Reader_takeName_71 ⟨_, rfl, rfl⟩) (fun y => absurd y h)
  exact e_Reader_takeName (b_Reader_takeName_0 (fun _ => b_Reader_takeName_31 (fun _ => fin) (fun _ => b_Reader_takeName_45 hg (w_tellN h) (fun A e => by rw [e]; exact fin))) (fun _ => b_Reader_takeName_19 hg (w_tellN h) (fun A e => b_Reader_takeName_28 (by rw [e]; exact fin))))
theorem w_paramN (hg : ip_gk (lg_tbl, vwCl, Gr)) (h : ¬ S.1 3 5 = 0) {x : Int32} : zMv l Gr (zc n w) 168 M_Reader_readParam (d + 7) [.ref 66, .int x] S (fun S' => S' = S) := by
  refine e_Reader_readParam (b_Reader_readParam_0 hg (w_takeNameN hg h) (fun v A e => ?_))
  rw [e]
  refine b_Reader_readParam_4 hg (w_expectN hg h) (fun A e => ?_)
  rw [e]
  refine b_Reader_readParam_11 hg (w_takeSortN hg h) (fun v A e => ?_)
  rw [e]
  exact b_Reader_readParam_15 (fun _ => b_Reader_readParam_69 ⟨rfl, rfl⟩) (fun y => absurd y h)
/-- the reference in the loop, behind a FAULT -/
theorem df_117 {Y : zS} {f : Int32} {j v s : Nat} {x5 x6 x7 : Int32} (y7 : Y.1 73 7 = f) (hf : fz f) {Q : zS → Prop} (q : Q Y) : zW l Gr (zc n w) 168 M_Mo_defItem (d + 13) 193 (dM p s v j x5) [] Y (fun v S' => v = none ∧ Q S') := by
  have e196 : zW l Gr (zc n w) 168 M_Mo_defItem (d + 13) 196 (dN p s v j) [] Y (fun v S' => v = none ∧ Q S') :=
    b_Mo_defItem_196 (fun _ => b_Mo_defItem_209 (fun _ => b_Mo_defItem_222 (fun _ => b_Mo_defItem_233 (fun _ => b_Mo_defItem_252 (fun y => absurd (by rw [← y7]; exact y) hf) (fun _ => b_Mo_defItem_259 ⟨rfl, q⟩)) (fun y => absurd (y7.symm.trans y) (nz hf))) (fun y => absurd (y7.symm.trans y) (nz hf))) (fun y => absurd (y7.symm.trans y) (nz hf))) (fun y => absurd (y7.symm.trans y) (nz hf))
  exact b_Mo_defItem_193 (b_Mo_defItem_76 (fun _ => e196) (fun _ => b_Mo_defItem_81 (fun _ => e196) (fun y => absurd (y7.symm.trans y) (nz hf))))
/-- one PARAM on both sides -/
theorem w_param (hg : ip_gk (lg_tbl, vwCl, Gr)) (ho : ip_old (lg_tbl, vwCl, Gr)) (htx : ∀ k, k < t → tx (b k)) {S0 : zS} {p1 Dn : Nat} (hk : tk b t p = 203) (hip : i ≤ p) (hDp : 5 * Dn ≤ p) (h : DD l Gr n w d b t S0 S p i p1 Dn vw iw k q 1) : zMv l Gr (zc n w) 168 M_Reader_readParam (e + 7) [.ref 66, .int (nI Dn)] S (fun S' => (∃ q', q < q' ∧ DO l Gr n w d b t S0 S' p i p1 Dn vw iw (k + 1) q') ∨ ∃ f pl, DF l Gr n w d b t S0 S' p vw iw f pl) := by
  obtain ⟨⟨c0, x81, x89, x34, x15, sk0, rS, rD, hq⟩, hR⟩ := h
  have ht := CS_t c0
  have hqt := CS_p c0
  have wbq := c0.2.2.2.2.2.2.2.2.1
  have jk0 : JK S0 S 0 0 0 := JK_SK (SK_0 sk0)
  have dsp : ∀ {T T' qq j N}, HS b t qq j 0 N vw iw p T → zMv l Gr (zc n w) 168 M_Mo_defItem (d + 13) [.ref 105, .int (nI p)] (zi T 73 6 (nI p)) (fun A => A = T') → PX l Gr n w d T T' := fun hH hm => px_def hg ho htx hH hk hm
  -- the reference at its NAME
  have st1 : ∀ T qq j N, HS b t qq j 0 N vw iw p T → ∃ v T1 N1, nid b t T1 v p1 ∧ MC b t q (j + 1 + k) 0 0 N1 T1 ∧ PK b t T T1 j 0 ∧ P3 T T1 ∧ nb b t N1 q ∧ j ≤ 3 * p ∧ (T1.1 78 j = 26 ∧ T1.1 79 j = nI v ∧ T1.1 80 j = nI k ∧ T1.1 81 j = nI p1) ∧ (∀ a, a < k → sPar S T1 (nid b t T1) Dn i j a) ∧ DX l Gr n w d T p 92 (dM p p1 v j 1) T1 := fun T qq j N hH => by
    obtain ⟨v, T1, q1, N1, hid, M1, g1, pk1, p31, nb1, hq1, bj, rT, pa, pre⟩ := hR T qq j N hH
    have hqq : q1 ≤ q := by rw [← g1]; exact gp_ge (MC_p2 M1)
    have pk2 : ∀ a, PK b t T1 (zi T1 73 6 (nI q)) a 0 := fun a => PK_zi (by omega)
    refine ⟨v, zi T1 73 6 (nI q), N1, (pk2 0).2.2.2.2.2.2 v p1 hid, MC_p M1 g1, PK_tr pk1 (pk2 j), P3_tr p31 (P3_zi (by omega)), nb_le nb1 hqq, bj, ⟨by rw [zi_c (by decide)]; exact rT.1, by rw [zi_c (by decide)]; exact rT.2.1, by rw [zi_c (by decide)]; exact rT.2.2.1, by rw [zi_c (by decide)]; exact rT.2.2.2⟩, fun a ha => ?_, fun Q kk => pre Q (b_Mo_defItem_76 (fun y => absurd y (by decide)) (fun _ => b_Mo_defItem_81 (fun y => absurd (MC_f M1) y) (fun _ => b_Mo_defItem_88 hg (wm_gap hg M1.1) (fun A eA => by rw [eA, g1]; exact kk))))⟩
    obtain ⟨x, s, r, y1, y2, y3, y4, y5, y6, y7, y8, y9, y10⟩ := pa a ha
    exact ⟨x, s, r, (pk2 0).2.2.2.2.2.2 x s y1, y2, y3, y4, y5, y6, by rw [zi_c (by decide)]; exact y7, by rw [zi_c (by decide)]; exact y8, by rw [zi_c (by decide)]; exact y9, by rw [zi_c (by decide)]; exact y10⟩
  refine e_Reader_readParam (b_Reader_readParam_0 hg (w_takeName hg ho c0) (fun v S1 hv => ?_))
  obtain ⟨ev, hv⟩ := hv
  rw [ev]
  rcases hv with ⟨k1, hsz, e1⟩ | ⟨hbad, e1⟩
  · rw [e1]
    have hptq : q < t := tk_pos (by rw [k1]; decide)
    have hgtq := np_gt (b := b) hptq
    have c1 := CS_wS c0
    obtain ⟨q2, eq2⟩ : ∃ q2, q2 = np b t q := ⟨_, rfl⟩
    rw [← eq2] at c1 hgtq ⊢
    have hq2 := CS_p c1
    have st2 : ∀ T qq j N, HS b t qq j 0 N vw iw p T → ∃ v x T2 N2, nid b t T2 v p1 ∧ nid b t T2 x q ∧ MC b t (te b t q) (j + 1 + k) 0 0 N2 T2 ∧ PK b t T T2 j 0 ∧ P3 T T2 ∧ nb b t N2 (te b t q) ∧ j ≤ 3 * p ∧ (T2.1 78 j = 26 ∧ T2.1 79 j = nI v ∧ T2.1 80 j = nI k ∧ T2.1 81 j = nI p1) ∧ (∀ a, a < k → sPar S T2 (nid b t T2) Dn i j a) ∧ DX l Gr n w d T p 111 [some (.ref 105), some (.int (nI p)), some (.int (nI p1)), some (.int (nI v)), some (.int (nI j)), some (.int 1), some (.int (nI q)), some (.int (nI x)), none] T2 := fun T qq j N hH => by
      obtain ⟨v, T1, N1, hid, M1, pk1, p31, nb1, bj, rT, pa, pre⟩ := st1 T qq j N hH
      obtain ⟨x, T2, N2, kn, hix, M2, mk2, nb2⟩ := nm_run (l := l) (Gr := Gr) (n := n) (w := w) (d := d + 6) hg ho htx M1 (gp_wb wbq) nb1 k1 hsz
      have c0' := mk2.1 j (Nat.zero_le _) (by omega)
      refine ⟨v, x, T2, N2, nid_MK hid mk2, hix, M2, PK_tr pk1 (PK_MK (MK_le mk2 (by omega) (Nat.le_refl _))), P3_tr p31 (P3_MK mk2), nb2, bj, ⟨c0'.1.trans rT.1, c0'.2.1.trans rT.2.1, c0'.2.2.1.trans rT.2.2.1, c0'.2.2.2.1.trans rT.2.2.2⟩, fun a ha => ?_, fun Q kk => pre Q (b_Mo_defItem_92 hg kn (fun a A hv => ?_))⟩
      · obtain ⟨x, s, r, y1, y2, y3, y4, y5, y6, y7, y8, y9, y10⟩ := pa a ha
        have c1' := mk2.1 (j + 1 + a) (Nat.zero_le _) (by omega)
        exact ⟨x, s, r, nid_MK y1 mk2, y2, y3, y4, y5, y6, c1'.1.trans y7, c1'.2.1.trans y8, c1'.2.2.1.trans y9, c1'.2.2.2.1.trans y10⟩
      · rw [hv.1, hv.2, MC_6 M1]
        exact b_Mo_defItem_102 (fun y => absurd (MC_f M2) y) (fun _ => kk)
    obtain ⟨S1', eS1⟩ : ∃ S1', S1' = wS b t q2 S := ⟨_, rfl⟩
    have ck1 : CK S S1' (i + 1 + k) 0 := by rw [eS1]; exact CK_wS
    rw [← eS1] at c1 ⊢
    refine b_Reader_readParam_4 hg (w_expect hg ho c1) (fun S2 h2 => ?_)
    rcases h2 with ⟨k58, e2⟩ | ⟨k58, e2⟩
    · rw [e2]
      have hpt2 : q2 < t := tk_pos (by rw [k58]; decide)
      have hgt2 := np_gt (b := b) hpt2
      obtain ⟨te2, -⟩ := te_s htx hq2 (c := 58) (by decide) (by decide) (by decide) k58
      have c2 := CS_wS c1
      obtain ⟨q3, eq3⟩ : ∃ q3, q3 = np b t q2 := ⟨_, rfl⟩
      rw [← eq3] at c2 hgt2 ⊢
      have g23 : gp b t (q2 + 1) = q3 := by rw [eq3, np, te2]
      have hq3 := CS_p c2
      obtain ⟨S2', eS2⟩ : ∃ S2', S2' = wS b t q3 S1' := ⟨_, rfl⟩
      have ck2 : CK S S2' (i + 1 + k) 0 := CK_tr ck1 (by rw [eS2]; exact CK_wS)
      rw [← eS2] at c2 ⊢
      have st3 : ∀ T qq j N, HS b t qq j 0 N vw iw p T → ∃ v x T3 N2, nid b t T3 v p1 ∧ nid b t T3 x q ∧ MC b t (q2 + 1) (j + 1 + k) 0 0 N2 T3 ∧ PK b t T T3 j 0 ∧ P3 T T3 ∧ nb b t N2 (q2 + 1) ∧ j ≤ 3 * p ∧ (T3.1 78 j = 26 ∧ T3.1 79 j = nI v ∧ T3.1 80 j = nI k ∧ T3.1 81 j = nI p1) ∧ (∀ a, a < k → sPar S T3 (nid b t T3) Dn i j a) ∧ DX l Gr n w d T p 124 [some (.ref 105), some (.int (nI p)), some (.int (nI p1)), some (.int (nI v)), some (.int (nI j)), some (.int 1), some (.int (nI q)), some (.int (nI x)), none] T3 := fun T qq j N hH => by
        obtain ⟨v, x, T2, N2, hid, hix, M2, pk2, p32, nb2, bj, rT, pa, pre⟩ := st2 T qq j N hH
        have g12 : te b t q ≤ q2 := by rw [eq2]; exact gp_ge (MC_p2 M2)
        have mk3 : MK b t T2 (zi T2 73 6 (nI (q2 + 1))) (j + 1 + k) 0 := MK_zi (by omega)
        have M3 : MC b t (q2 + 1) (j + 1 + k) 0 0 N2 (zi T2 73 6 (nI (q2 + 1))) := MC_at M2 (by omega)
        have c0' := mk3.1 j (Nat.zero_le _) (by omega)
        refine ⟨v, x, _, N2, nid_MK hid mk3, nid_MK hix mk3, M3, PK_tr pk2 (PK_MK (MK_le mk3 (by omega) (Nat.le_refl _))), P3_tr p32 (P3_MK mk3), nb_le nb2 (by omega), bj, ⟨c0'.1.trans rT.1, c0'.2.1.trans rT.2.1, c0'.2.2.1.trans rT.2.2.1, c0'.2.2.2.1.trans rT.2.2.2⟩, fun a ha => ?_, fun Q kk => pre Q (b_Mo_defItem_111 hg (wm_sg hg htx (by decide) (by decide) (by decide) M2.1 eq2.symm k58) (fun A eA => ?_))⟩
        · obtain ⟨x, s, r, y1, y2, y3, y4, y5, y6, y7, y8, y9, y10⟩ := pa a ha
          have c1' := mk3.1 (j + 1 + a) (Nat.zero_le _) (by omega)
          exact ⟨x, s, r, nid_MK y1 mk3, y2, y3, y4, y5, y6, c1'.1.trans y7, c1'.2.1.trans y8, c1'.2.2.1.trans y9, c1'.2.2.2.1.trans y10⟩
        · rw [eA]
          exact b_Mo_defItem_117 (fun y => absurd (MC_f M3) y) (fun _ => kk)
      refine b_Reader_readParam_11 hg (w_takeSort hg ho c2) (fun v S3 hv => ?_)
      obtain ⟨ev, hv⟩ := hv
      rcases hv with ⟨hs, e3⟩ | ⟨hs, e3⟩
      · have hS := TYS_of hs
        obtain ⟨-, hr, er⟩ := TYS_k hS
        obtain ⟨r, eR⟩ : ∃ r, r = (if tk b t q3 = 210 then 1 else 0) := ⟨_, rfl⟩
        rw [er, ← eR] at ev
        rw [← eR] at hr
        rw [ev, e3]
        have l3 := wd_len3 hq3 htx hs
        have tle3 := te_le (b := b) hq3
        have hnp3 := np_ok (b := b) hq3
        rw [l3] at hnp3
        have c3 := CS_wS c2
        obtain ⟨q4, eq4⟩ : ∃ q4, q4 = np b t q3 := ⟨_, rfl⟩
        rw [← eq4] at c3 hnp3 ⊢
        have hq4 := CS_p c3
        obtain ⟨S3', eS3⟩ : ∃ S3', S3' = wS b t q4 S2' := ⟨_, rfl⟩
        have ck3 : CK S S3' (i + 1 + k) 0 := CK_tr ck2 (by rw [eS3]; exact CK_wS)
        have ck30 : CK S S3' 0 0 := CK_le ck3 (Nat.zero_le _) (Nat.le_refl _)
        rw [← eS3] at c3 ⊢
        have f3 : ∀ c a, ¬ (3 ≤ c ∧ c ≤ 7) → ¬ (34 ≤ c ∧ c ≤ 38) → S3'.1 c a = S.1 c a := ck30.2.2.1
        have hDn : vp_in (nI Dn) 800 := vp_in_nI (by omega) (by omega)
        refine b_Reader_readParam_15 (fun y => absurd (CS_f c3) y) (fun _ => b_Reader_readParam_26 hg hDn (w_nadd (b := b) (D := Dn + 1 + k) hg ht c3.1 ((f3 8 1 (by omega) (by omega)).trans x81) ((f3 8 9 (by omega) (by omega)).trans x89) (by omega) hqt) (fun v A hv => ?_))
        rw [hv.1, hv.2, nI_clamp (by omega), f3 15 Dn (by omega) (by omega), x15]
        have c4 : CS b t q4 (i + 1 + k) 0 (nA S3' (Dn + 1 + k) 3 (nI q) (nI (re pn b t q)) (nI r) 0 (nI k)) := CS_nA c3
        have rN := nA_r (S := S3') (D0 := Dn + 1 + k) (x1 := 3) (x2 := nI q) (x3 := nI (re pn b t q)) (x4 := nI r) (x5 := 0) (x6 := nI k)
        have skN : SK S3' (nA S3' (Dn + 1 + k) 3 (nI q) (nI (re pn b t q)) (nI r) 0 (nI k)) (i + 1 + k) (Dn + 1 + k) := SK_nA (Nat.le_refl _)
        have cN : ∀ c a, ¬ (9 ≤ c ∧ c ≤ 15) → ¬ (c = 8 ∧ a = 9) → (nA S3' (Dn + 1 + k) 3 (nI q) (nI (re pn b t q)) (nI r) 0 (nI k)).1 c a = S3'.1 c a := fun c a q1 q2 => nA_c q1 q2
        obtain ⟨S4, eS4⟩ : ∃ S4, S4 = nA S3' (Dn + 1 + k) 3 (nI q) (nI (re pn b t q)) (nI r) 0 (nI k) := ⟨_, rfl⟩
        rw [← eS4] at c4 rN skN cN ⊢
        refine b_Reader_readParam_51 hg (w_add hg (CS_f c4) (CS_n c4) (by omega)) (fun v A hv => ?_)
        rw [hv.2]
        have c5 : CS b t q4 (i + 1 + k + 1) 0 (cA S4 (i + 1 + k) 4 (nI (Dn + 1 + k)) (nI q) 0) := CS_cA c4
        have r5 := cA_r (S := S4) (i0 := i + 1 + k) (x1 := 4) (x2 := nI (Dn + 1 + k)) (x3 := nI q) (x4 := 0)
        have sk45 : SK S4 (cA S4 (i + 1 + k) 4 (nI (Dn + 1 + k)) (nI q) 0) (i + 1 + k) (Dn + 1 + k + 1) := SK_cA (Nat.le_refl _)
        have k5 : ∀ c a, c ≠ 3 ∧ c ≠ 4 ∧ c ≠ 5 ∧ c ≠ 6 ∧ c ≠ 7 → (cA S4 (i + 1 + k) 4 (nI (Dn + 1 + k)) (nI q) 0).1 c a = S4.1 c a := fun c a hc => cA_c hc
        obtain ⟨S5, eS5⟩ : ∃ S5, S5 = cA S4 (i + 1 + k) 4 (nI (Dn + 1 + k)) (nI q) 0 := ⟨_, rfl⟩
        rw [← eS5] at c5 r5 sk45 k5 ⊢
        have sk05 : SK S S5 (i + 1 + k) (Dn + 1 + k) := SK_tr (SK_CK ck3) (SK_tr skN (SK_le sk45 (Nat.le_refl _) (by omega)))
        have y15 : S5.1 15 Dn = nI k := (sk05.2.1 Dn (by omega)).2.2.2.2.2.2.trans x15
        refine b_Reader_readParam_55 hDn (b_Reader_readParam_69 ⟨rfl, Or.inl ⟨q4, by omega, ?_⟩⟩)
        rw [nI_clamp (by omega), y15, nI_1]
        obtain ⟨S6, eS6⟩ : ∃ S6, S6 = zi S5 15 Dn (nI (k + 1)) := ⟨_, rfl⟩
        have f6 : ∀ c a, ¬ (c = 15 ∧ a = Dn) → S6.1 c a = S5.1 c a := fun c a h => by rw [eS6, zi_get, if_neg h]
        have c6 : CS b t q4 (i + 1 + k + 1) 0 S6 := by rw [eS6]; exact CS_o c5 (by omega)
        rw [← eS6]
        -- rows of code, names but the number of PARAMs
        have g6 : ∀ a, a < i + 1 + k → S6.1 4 a = S.1 4 a ∧ S6.1 5 a = S.1 5 a ∧ S6.1 6 a = S.1 6 a ∧ S6.1 7 a = S.1 7 a := fun a ha => by
          have y := sk05.1 a (Nat.zero_le _) ha
          exact ⟨(f6 4 a (by omega)).trans y.1, (f6 5 a (by omega)).trans y.2.1, (f6 6 a (by omega)).trans y.2.2.1, (f6 7 a (by omega)).trans y.2.2.2⟩
        have n6 : ∀ a, a < Dn + 1 + k → S6.1 9 a = S.1 9 a ∧ S6.1 11 a = S.1 11 a ∧ S6.1 12 a = S.1 12 a ∧ S6.1 13 a = S.1 13 a ∧ S6.1 14 a = S.1 14 a := fun a ha => by
          have y := sk05.2.1 a ha
          exact ⟨(f6 9 a (by omega)).trans y.1, (f6 11 a (by omega)).trans y.2.2.1, (f6 12 a (by omega)).trans y.2.2.2.1, (f6 13 a (by omega)).trans y.2.2.2.2.1, (f6 14 a (by omega)).trans y.2.2.2.2.2.1⟩
        have sk56 : SK S5 S6 (i + 1 + k) Dn := by rw [eS6]; exact SK_zi (by omega)
        refine ⟨⟨c6, ?_, ?_, ?_, by rw [eS6]; exact zi_v, SK_tr sk0 (SK_tr (SK_le sk05 (by omega) (by omega)) (SK_le sk56 (by omega) (Nat.le_refl _))), ⟨(g6 i (by omega)).1.trans rS.1, (g6 i (by omega)).2.1.trans rS.2.1, (g6 i (by omega)).2.2.1.trans rS.2.2⟩, ⟨(n6 Dn (by omega)).1.trans rD.1, (n6 Dn (by omega)).2.1.trans rD.2.1, (n6 Dn (by omega)).2.2.2.1.trans rD.2.2⟩, by omega, fun a ha => ?_, NS_s (s := q) (NS_k hq.2.2 (fun a ha => ?_)) hqt ((f6 9 _ (by omega)).trans ((k5 9 _ (by decide)).trans rN.1)) ((f6 10 _ (by omega)).trans ((k5 10 _ (by decide)).trans (by rw [eS4]; exact nA_10)))⟩, fun T qq j N hH => ?_⟩
        · rw [f6 8 1 (by omega), k5 8 1 (by decide), cN 8 1 (by omega) (by omega), f3 8 1 (by omega) (by omega)]; exact x81
        · rw [f6 8 9 (by omega), k5 8 9 (by decide)]; exact rN.2.2.2.2.2.1
        · rw [f6 34 10 (by omega), k5 34 10 (by decide), cN 34 10 (by omega) (by omega), ck30.2.2.2.1 10 (by decide)]; exact x34
        · by_cases z : a < k
          · exact (g6 (i + 1 + a) (by omega)).1.trans (hq.2.1 a z)
          · rw [show a = k by omega]
            exact (f6 4 _ (by omega)).trans r5.1
        · have y := sk05.2.1 a ha
          exact ⟨(f6 9 a (by omega)).trans y.1, (f6 10 a (by omega)).trans y.2.1⟩
        · obtain ⟨v, x, T3, N2, hid, hix, M3, pk3, p33, nb3, bj, rT, pa, pre⟩ := st3 T qq j N hH
          obtain ⟨T4, eT4⟩ : ∃ T4, T4 = zi (zi (zi T3 73 6 (nI q3)) 73 32 (nI r)) 73 6 (nI (q3 + 3)) := ⟨_, rfl⟩
          have M4 : MC b t (q3 + 3) (j + 1 + k) 0 0 N2 T4 := by rw [eT4]; exact MC_at (MC_x (MC_at M3 (by omega)) (by omega)) (by omega)
          have t32 : T4.1 73 32 = nI r := by rw [eT4, zi_k (by decide)]; exact zi_v
          have M5 : MC b t (q3 + 3) (j + 1 + k + 1) 0 0 N2 (mP T4 (j + 1 + k) 27 (nI x) (nI r) (nI q)) := MC_mP M4
          have r5' := mP_r (T := T4) (j0 := j + 1 + k) (x1 := 27) (x2 := nI x) (x3 := nI r) (x4 := nI q)
          have o5 : ∀ a, a < j + 1 + k → (mP T4 (j + 1 + k) 27 (nI x) (nI r) (nI q)).1 78 a = T3.1 78 a ∧ (mP T4 (j + 1 + k) 27 (nI x) (nI r) (nI q)).1 79 a = T3.1 79 a ∧ (mP T4 (j + 1 + k) 27 (nI x) (nI r) (nI q)).1 80 a = T3.1 80 a ∧ (mP T4 (j + 1 + k) 27 (nI x) (nI r) (nI q)).1 81 a = T3.1 81 a := fun a ha => by
            have y := mP_o (T := T4) (j0 := j + 1 + k) (a := a) (x1 := 27) (x2 := nI x) (x3 := nI r) (x4 := nI q) (by omega)
            have z : ∀ c, c ≠ 73 → T4.1 c a = T3.1 c a := fun c hc => by rw [eT4, zi_c hc, zi_c hc, zi_c hc]
            exact ⟨y.1.trans (z _ (by decide)), y.2.1.trans (z _ (by decide)), y.2.2.1.trans (z _ (by decide)), y.2.2.2.trans (z _ (by decide))⟩
          have pk35 : ∀ a, a ≤ j + 1 + k → PK b t T3 (mP T4 (j + 1 + k) 27 (nI x) (nI r) (nI q)) a 0 := fun a ha => by rw [eT4]; exact PK_tr (PK_tr (PK_tr (PK_zi (by omega)) (PK_zi (by omega))) (PK_zi (by omega))) (PK_mP ha)
          have p35 : P3 T3 (mP T4 (j + 1 + k) 27 (nI x) (nI r) (nI q)) := by rw [eT4]; exact P3_tr (P3_tr (P3_tr (P3_zi (by omega)) (P3_zi (by omega))) (P3_zi (by omega))) (P3_MK (MK_mP (b := b) (t := t) (m := 0) (Nat.zero_le _)))
          obtain ⟨T5, eT5⟩ : ∃ T5, T5 = mP T4 (j + 1 + k) 27 (nI x) (nI r) (nI q) := ⟨_, rfl⟩
          rw [← eT5] at M5 r5' o5 pk35 p35
          obtain ⟨T6, eT6⟩ : ∃ T6, T6 = zi (zi T5 80 j (nI (k + 1))) 73 6 (nI q4) := ⟨_, rfl⟩
          have M6 : MC b t q4 (j + 1 + k + 1) 0 0 N2 T6 := by rw [eT6]; exact MC_at (MC_o M5 (by omega)) hq4
          have z6 : ∀ c a, c ≠ 73 → ¬ (c = 80 ∧ a = j) → T6.1 c a = T5.1 c a := fun c a h1 h2 => by rw [eT6, zi_c h1, zi_get, if_neg h2]
          have pk56 : PK b t T5 T6 j 0 := by rw [eT6]; exact PK_tr (PK_zi (by omega)) (PK_zi (by omega))
          have pk36 : PK b t T3 T6 j 0 := PK_tr (pk35 j (by omega)) pk56
          have hjj := hH.2.2.1
          have hqq : qq ≤ p := by rw [← hH.2.1]; exact gp_ge (MC_p2 hH.1.1)
          have oj := o5 j (by omega)
          refine ⟨v, T6, N2, pk36.2.2.2.2.2.2 v p1 hid, M6, PK_tr pk3 pk36, P3_tr p33 (P3_tr p35 (by rw [eT6]; exact P3_tr (P3_zi (by omega)) (P3_zi (by omega)))), nb_le nb3 (by omega), bj, ⟨(z6 78 j (by decide) (by omega)).trans (oj.1.trans rT.1), (z6 79 j (by decide) (by omega)).trans (oj.2.1.trans rT.2.1), by rw [eT6, zi_c (by decide)]; exact zi_v, (z6 81 j (by decide) (by omega)).trans (oj.2.2.2.trans rT.2.2.2)⟩, fun a ha => ?_, fun Q kk => pre Q ?_⟩
          · by_cases z : a = k
            · subst z
              refine ⟨x, q, r, pk36.2.2.2.2.2.2 x q hix, hr, ⟨?_, ?_, ?_, ?_, ?_⟩, ?_, ?_, ?_, (z6 _ _ (by decide) (by omega)).trans r5'.1, (z6 _ _ (by decide) (by omega)).trans r5'.2.1, (z6 _ _ (by decide) (by omega)).trans r5'.2.2.1, (z6 _ _ (by decide) (by omega)).trans r5'.2.2.2⟩
              · rw [f6 9 _ (by omega), k5 9 _ (by decide)]; exact rN.1
              · rw [f6 11 _ (by omega), k5 11 _ (by decide)]; exact rN.2.1
              · rw [f6 12 _ (by omega), k5 12 _ (by decide)]; exact rN.2.2.1
              · rw [f6 13 _ (by omega), k5 13 _ (by decide)]; exact rN.2.2.2.1
              · rw [f6 14 _ (by omega), k5 14 _ (by decide)]; exact rN.2.2.2.2.1
              · rw [f6 4 _ (by omega)]; exact r5.1
              · rw [f6 5 _ (by omega)]; exact r5.2.1
              · rw [f6 6 _ (by omega)]; exact r5.2.2.1
            · obtain ⟨x', s, r', y1, y2, y3, y4, y5, y6, y7, y8, y9, y10⟩ := pa a (by omega)
              have oa := o5 (j + 1 + a) (by omega)
              have ga := g6 (i + 1 + a) (by omega)
              have na := n6 (Dn + 1 + a) (by omega)
              exact ⟨x', s, r', pk36.2.2.2.2.2.2 x' s y1, y2, ⟨na.1.trans y3.1, na.2.1.trans y3.2.1, na.2.2.1.trans y3.2.2.1, na.2.2.2.1.trans y3.2.2.2.1, na.2.2.2.2.trans y3.2.2.2.2⟩, ga.1.trans y4, ga.2.1.trans y5, ga.2.2.1.trans y6, (z6 _ _ (by decide) (by omega)).trans (oa.1.trans y7), (z6 _ _ (by decide) (by omega)).trans (oa.2.1.trans y8), (z6 _ _ (by decide) (by omega)).trans (oa.2.2.1.trans y9), (z6 _ _ (by decide) (by omega)).trans (oa.2.2.2.trans y10)⟩
          · refine b_Mo_defItem_124 hg (wm_sortWord hg ho htx M3.1 g23 (MC_f M3)) (fun A hA => ?_)
            rcases hA with ⟨-, eA⟩ | ⟨y, -⟩
            · rw [er, ← eR] at eA
              rw [eA, ← eT4]
              refine b_Mo_defItem_128 (fun y => absurd (MC_f M4) y) (fun _ => b_Mo_defItem_135 hg (by rw [t32]; exact wm_put (MC_13 M4) (by omega)) (fun a A hv => ?_))
              rw [hv.2, ← eT5]
              refine b_Mo_defItem_149 (R := fun A => A = T6) hg (vp_in_nI (by omega) (by omega)) ?_ (fun A eA => by rw [eA]; exact kk)
              rw [nI_clamp (by omega), oj.2.2.1, rT.2.2.1, nI_1]
              have M5' : MC b t (q3 + 3) (j + 1 + k + 1) 0 0 N2 (zi T5 80 j (nI (k + 1))) := MC_o M5 (by omega)
              have := wm_gap (l := l) (Gr := Gr) (n := n) (w := w) (d := d + 11) hg M5'.1
              rw [show gp b t (q3 + 3) = q4 from by rw [eq4, np, l3], ← eT6] at this
              exact this
            · exact absurd hs y
      · rw [e3]
        have f3 : ¬ (cF S2' 1 (nI q3)).1 3 5 = 0 := by rw [cF_f.1]; decide
        refine b_Reader_readParam_15 (fun _ => b_Reader_readParam_69 ⟨rfl, Or.inr ⟨1, nI q3, JB_F (by decide) (JK_tr jk0 (JK_SK (SK_CK (CK_le ck2 (Nat.zero_le _) (Nat.le_refl _))))), fun T qq j N hH => ?_⟩⟩) (fun y => absurd y f3)
        obtain ⟨v, x, T3, N2, hid, hix, M3, pk3, p33, nb3, bj, rT, pa, pre⟩ := st3 T qq j N hH
        obtain ⟨Y, eY⟩ : ∃ Y, Y = mF (zi (zi T3 73 6 (nI q3)) 73 32 0) 1 (nI q3) := ⟨_, rfl⟩
        have y7 : Y.1 73 7 = 1 := by rw [eY]; exact mF_f.1
        refine PZ_of (T' := Y) (by decide) (dsp hH (e_Mo_defItem (pre _ (b_Mo_defItem_124 hg (wm_sortWord hg ho htx M3.1 g23 (MC_f M3)) (fun A hA => ?_))))) y7 (by rw [eY]; exact mF_f.2) (PK_tr (PK_0 pk3) (by rw [eY]; exact PK_tr (PK_tr (PK_zi (by omega)) (PK_zi (by omega))) PK_mF))
        rcases hA with ⟨y, -⟩ | ⟨-, eA⟩
        · exact absurd y hs
        · rw [eA, ← eY]
          exact b_Mo_defItem_128 (fun _ => df_117 (x6 := 0) (x7 := 0) y7 (by decide) rfl) (fun y => absurd (y7.symm.trans y) (by decide))
    · rw [e2]
      have f2 : ¬ (cF S1' 1 (nI q2)).1 3 5 = 0 := by rw [cF_f.1]; decide
      refine b_Reader_readParam_11 hg (w_takeSortN hg f2) (fun v A eA => ?_)
      rw [eA]
      refine b_Reader_readParam_15 (fun _ => b_Reader_readParam_69 ⟨rfl, Or.inr ⟨1, nI q2, JB_F (by decide) (JK_tr jk0 (JK_SK (SK_CK (CK_le ck1 (Nat.zero_le _) (Nat.le_refl _))))), fun T qq j N hH => ?_⟩⟩) (fun y => absurd y f2)
      obtain ⟨v, x, T2, N2, hid, hix, M2, pk2, p32, nb2, bj, rT, pa, pre⟩ := st2 T qq j N hH
      have y7 : (mF (zi T2 73 6 (nI q2)) 1 (nI q2)).1 73 7 = 1 := mF_f.1
      refine PZ_of (T' := mF (zi T2 73 6 (nI q2)) 1 (nI q2)) (by decide) (dsp hH (e_Mo_defItem (pre _ (b_Mo_defItem_111 hg (wm_sgF hg htx (by decide) (by decide) (by decide) M2.1 eq2.symm (MC_f M2) k58) (fun A eA => ?_))))) y7 mF_f.2 (PK_tr (PK_0 pk2) (PK_tr (PK_zi (by omega)) PK_mF))
      rw [eA]
      exact b_Mo_defItem_117 (fun _ => b_Mo_defItem_128 (fun _ => df_117 (x6 := 0) (x7 := 0) y7 (by decide) rfl) (fun y => absurd (y7.symm.trans y) (by decide))) (fun y => absurd (y7.symm.trans y) (by decide))
  · obtain ⟨f, ef⟩ : ∃ f : Int32, f = if tk b t q = 1 then 2 else 1 := ⟨_, rfl⟩
    have hfz : fz f := by rw [ef]; split <;> decide
    rw [← ef] at e1
    rw [e1]
    have f1 : ¬ (cF S f (nI q)).1 3 5 = 0 := by rw [cF_f.1]; exact nz hfz
    refine b_Reader_readParam_4 hg (w_expectN hg f1) (fun A eA => ?_)
    rw [eA]
    refine b_Reader_readParam_11 hg (w_takeSortN hg f1) (fun v A eA => ?_)
    rw [eA]
    refine b_Reader_readParam_15 (fun _ => b_Reader_readParam_69 ⟨rfl, Or.inr ⟨f, nI q, JB_F hfz jk0, fun T qq j N hH => ?_⟩⟩) (fun y => absurd y f1)
    obtain ⟨v, T1, N1, hid, M1, pk1, p31, nb1, bj, rT, pa, pre⟩ := st1 T qq j N hH
    have y7 : (mF (zi T1 73 6 (nI q)) f (nI q)).1 73 7 = f := mF_f.1
    refine PZ_of (T' := mF (zi T1 73 6 (nI q)) f (nI q)) (nz hfz) (dsp hH (e_Mo_defItem (pre _ (b_Mo_defItem_92 hg (wm_nameF (d := d + 6) hg ho htx M1.1 (gp_wb wbq) (MC_f M1) hbad) (fun v A hv => ?_))))) y7 mF_f.2 (PK_tr (PK_0 pk1) (PK_tr (PK_zi (by omega)) PK_mF))
    rw [hv.1, hv.2, ← ef]
    exact b_Mo_defItem_102 (fun _ => b_Mo_defItem_117 (fun _ => b_Mo_defItem_128 (fun _ => df_117 (x6 := 0) (x7 := 0) y7 hfz rfl) (fun y => absurd (y7.symm.trans y) (nz hfz))) (fun y => absurd (y7.symm.trans y) (nz hfz))) (fun y => absurd (y7.symm.trans y) (nz hfz))
end DEF
