/-! def: behind its PARAMs -/
section DET
variable {l : Launch} {Gr : zG} {n w : Nat} {d : Nat} {b : Nat → Int32} {t p i ws dp p' i' q j m N X u k D D' vw iw s e : Nat} {S S' S'' T T' T'' : zS}
theorem dq_mv {p1 Dn pos pos' pc pc' : Nat} {L L' : Nat → zL} (h : DQ l Gr n w d b t S T p i p1 Dn k pos j pc L) (h1 : pos ≤ pos') (h2 : pos' ≤ t) (hr : ∀ v T1 N1, MC b t pos (j + 1 + k) 0 0 N1 T1 → ∀ Q, zW l Gr (zc n w) 168 M_Mo_defItem (d + 13) pc' (L' v) [] (zi T1 73 6 (nI pos')) Q → zW l Gr (zc n w) 168 M_Mo_defItem (d + 13) pc (L v) [] T1 Q) : DQ l Gr n w d b t S T p i p1 Dn k pos' j pc' L' := by
  obtain ⟨v, T1, N1, hid, M1, pk1, p31, nb1, bj, rT, pa, pre⟩ := h
  have pk2 : ∀ a, PK b t T1 (zi T1 73 6 (nI pos')) a 0 := fun a => PK_zi (by omega)
  exact ⟨v, zi T1 73 6 (nI pos'), N1, (pk2 0).2.2.2.2.2.2 v p1 hid, MC_at M1 h2, PK_tr pk1 (pk2 j), P3_tr p31 (P3_zi (by omega)), nb_le nb1 h1, bj, ⟨by rw [zi_c (by decide)]; exact rT.1, by rw [zi_c (by decide)]; exact rT.2.1, by rw [zi_c (by decide)]; exact rT.2.2.1, by rw [zi_c (by decide)]; exact rT.2.2.2⟩, fun a ha => sPar_k (pa a ha) (pk2 0).2.2.2.2.2.2 (fun _ _ _ => rfl) (fun c r hc => zi_c hc), fun Q kk => pre Q (hr v T1 N1 M1 Q kk)⟩
/-- the reference behind a FAULT there -/
theorem df_r209 {Y : zS} {f : Int32} {v : Nat} (y7 : Y.1 73 7 = f) (hf : fz f) {Q : zS → Prop} (q : Q Y) : zW l Gr (zc n w) 168 M_Mo_defItem (d + 13) 209 (dN p s v j) [] Y (fun v S' => v = none ∧ Q S') :=
  b_Mo_defItem_209 (fun _ => b_Mo_defItem_222 (fun _ => b_Mo_defItem_233 (fun _ => b_Mo_defItem_252 (fun y => absurd (by rw [← y7]; exact y) hf) (fun _ => b_Mo_defItem_259 ⟨rfl, q⟩)) (fun y => absurd (y7.symm.trans y) (nz hf))) (fun y => absurd (y7.symm.trans y) (nz hf))) (fun y => absurd (y7.symm.trans y) (nz hf))
theorem df_r222 {Y : zS} {f : Int32} {v : Nat} (y7 : Y.1 73 7 = f) (hf : fz f) {Q : zS → Prop} (q : Q Y) : zW l Gr (zc n w) 168 M_Mo_defItem (d + 13) 222 (dN p s v j) [] Y (fun v S' => v = none ∧ Q S') :=
  b_Mo_defItem_222 (fun _ => b_Mo_defItem_233 (fun _ => b_Mo_defItem_252 (fun y => absurd (by rw [← y7]; exact y) hf) (fun _ => b_Mo_defItem_259 ⟨rfl, q⟩)) (fun y => absurd (y7.symm.trans y) (nz hf))) (fun y => absurd (y7.symm.trans y) (nz hf))
theorem df_r233 {Y : zS} {f : Int32} {v : Nat} (y7 : Y.1 73 7 = f) (hf : fz f) {Q : zS → Prop} (q : Q Y) : zW l Gr (zc n w) 168 M_Mo_defItem (d + 13) 233 (dN p s v j) [] Y (fun v S' => v = none ∧ Q S') :=
  b_Mo_defItem_233 (fun _ => b_Mo_defItem_252 (fun y => absurd (by rw [← y7]; exact y) hf) (fun _ => b_Mo_defItem_259 ⟨rfl, q⟩)) (fun y => absurd (y7.symm.trans y) (nz hf))
abbrev dE (p s v j r : Nat) : zL := [some (.ref 105), some (.int (nI p)), some (.int (nI s)), some (.int (nI v)), some (.int (nI j)), none, some (.int (nI r)), none, none]
set_option maxHeartbeats 4000000 in
theorem w_dtail (hg : ip_gk (lg_tbl, vwCl, Gr)) (ho : ip_old (lg_tbl, vwCl, Gr)) (htx : ∀ k, k < t → tx (b k)) {S0 : zS} {p1 Dn : Nat} (hk : tk b t p = 203) (hip : i ≤ p) (hDp : 5 * Dn ≤ p) (hvw : vw ≤ 256) (hc : Ic n w S0 iw) (KE0 : KE l Gr n w d b t 0 (e + 7)) (h : DD l Gr n w d b t S0 S p i p1 Dn vw iw k q 0) : zW l Gr (zc n w) 168 M_Reader_readDef (e + 8) 121 [some (.ref 66), none, some (.int (nI Dn)), some (.int (nI i)), none, none] [] S (fun v S' => v = none ∧ JR l Gr n w d b t S0 S' p i Dn vw iw) := by
  obtain ⟨⟨c0, x81, x89, x34, x15, sk0, rS, rD, hq⟩, hR⟩ := h
  have ht := CS_t c0
  have hqt := CS_p c0
  have dsp : ∀ {T T' qq j N}, HS b t qq j 0 N vw iw p T → zMv l Gr (zc n w) 168 M_Mo_defItem (d + 13) [.ref 105, .int (nI p)] (zi T 73 6 (nI p)) (fun A => A = T') → PX l Gr n w d T T' := fun hH hm => px_def hg ho htx hH hk hm
  have badJ : ∀ (X : zS) (f pl : Int32), fz f → SK S0 X 0 0 → (∀ T q j N, HS b t q j 0 N vw iw p T → PZ l Gr n w d b t T f pl) → ∀ A, A.1 3 5 = (cF X f pl).1 3 5 → A.1 3 6 = (cF X f pl).1 3 6 → JK (cF X f pl) A 0 0 0 → JR l Gr n w d b t S0 A p i Dn vw iw := fun X f pl hf hX hz A a5 a6 jk => by
    rw [cF_f.1] at a5
    rw [cF_f.2] at a6
    exact Or.inr ⟨f, pl, ⟨hf, a5, a6, JK_tr (JK_tr (JK_SK hX) (JK_SK (SK_CK (ws := 0) CK_cF))) jk⟩, hz⟩
  -- the reference ahead of its )
  have st0 : ∀ T qq j N, HS b t qq j 0 N vw iw p T → ∃ q1, gp b t q1 = q ∧ DQ l Gr n w d b t S T p i p1 Dn k q1 j 203 (fun v => dN p p1 v j) := fun T qq j N hH => by
    obtain ⟨v, T1, q1, N1, hid, M1, g1, pk1, p31, nb1, hq1, bj, rT, pa, pre⟩ := hR T qq j N hH
    exact ⟨q1, g1, v, T1, N1, hid, M1, pk1, p31, nb1, bj, rT, pa, fun Q kk => pre Q (b_Mo_defItem_76 (fun _ => b_Mo_defItem_196 (fun y => absurd (MC_f M1) y) (fun _ => kk)) (fun y => absurd rfl y))⟩
  refine b_Reader_readDef_121 hg (w_expect (d := e + 1) hg ho c0) (fun S1 h1 => ?_)
  rcases h1 with ⟨k41, e1⟩ | ⟨k41, e1⟩
  · rw [e1]
    have hpt : q < t := tk_pos (by rw [k41]; decide)
    have hgt := np_gt (b := b) hpt
    obtain ⟨te0, -⟩ := te_s htx hqt (c := 41) (by decide) (by decide) (by decide) k41
    have c1 := CS_wS c0
    obtain ⟨q1, eq1⟩ : ∃ q1, q1 = np b t q := ⟨_, rfl⟩
    rw [← eq1] at c1 hgt ⊢
    have g01 : gp b t (q + 1) = q1 := by rw [eq1, np, te0]
    have hq1 := CS_p c1
    obtain ⟨S1', eS1⟩ : ∃ S1', S1' = wS b t q1 S := ⟨_, rfl⟩
    have ck1 : CK S S1' (i + 1 + k) 0 := by rw [eS1]; exact CK_wS
    rw [← eS1] at c1 ⊢
    have st1 : ∀ T qq j N, HS b t qq j 0 N vw iw p T → DQ l Gr n w d b t S T p i p1 Dn k (q + 1) j 216 (fun v => dN p p1 v j) := fun T qq j N hH => by
      obtain ⟨a1, g1, h⟩ := st0 T qq j N hH
      have ha : a1 ≤ q := by
        obtain ⟨v, T1, N1, hid, M1, -⟩ := h
        rw [← g1]; exact gp_ge (MC_p2 M1)
      refine dq_mv h (by omega) (by omega) (fun v T1 N1 M1 Q kk => b_Mo_defItem_203 hg (wm_sg hg htx (by decide) (by decide) (by decide) M1.1 g1 k41) (fun A eA => ?_))
      rw [eA]
      exact b_Mo_defItem_209 (fun y => absurd (MC_f (MC_at (q' := q + 1) M1 (by omega))) y) (fun _ => kk)
    refine b_Reader_readDef_127 hg (w_expect (d := e + 1) hg ho c1) (fun S2 h2 => ?_)
    rcases h2 with ⟨k58, e2⟩ | ⟨k58, e2⟩
    · rw [e2]
      have hpt1 : q1 < t := tk_pos (by rw [k58]; decide)
      have hgt1 := np_gt (b := b) hpt1
      obtain ⟨te1, -⟩ := te_s htx hq1 (c := 58) (by decide) (by decide) (by decide) k58
      have c2 := CS_wS c1
      obtain ⟨q2, eq2⟩ : ∃ q2, q2 = np b t q1 := ⟨_, rfl⟩
      rw [← eq2] at c2 hgt1 ⊢
      have g12 : gp b t (q1 + 1) = q2 := by rw [eq2, np, te1]
      have hq2 := CS_p c2
      obtain ⟨S2', eS2⟩ : ∃ S2', S2' = wS b t q2 S1' := ⟨_, rfl⟩
      have ck2 : CK S S2' (i + 1 + k) 0 := CK_tr ck1 (by rw [eS2]; exact CK_wS)
      rw [← eS2] at c2 ⊢
      have st2 : ∀ T qq j N, HS b t qq j 0 N vw iw p T → DQ l Gr n w d b t S T p i p1 Dn k (q1 + 1) j 229 (fun v => dN p p1 v j) := fun T qq j N hH =>
        dq_mv (st1 T qq j N hH) (by omega) (by omega) (fun v T1 N1 M1 Q kk => b_Mo_defItem_216 hg (wm_sg hg htx (by decide) (by decide) (by decide) M1.1 g01 k58) (fun A eA => by
          rw [eA]
          exact b_Mo_defItem_222 (fun y => absurd (MC_f (MC_at (q' := q1 + 1) M1 (by omega))) y) (fun _ => kk)))
      refine b_Reader_readDef_133 hg (w_takeSort (d := e + 1) hg ho c2) (fun v S3 hv => ?_)
      obtain ⟨ev, hv⟩ := hv
      rcases hv with ⟨hs, e3⟩ | ⟨hs, e3⟩
      · have hS := TYS_of hs
        obtain ⟨-, hr, er⟩ := TYS_k hS
        obtain ⟨r, eR⟩ : ∃ r, r = (if tk b t q2 = 210 then 1 else 0) := ⟨_, rfl⟩
        rw [er, ← eR] at ev
        rw [← eR] at hr
        rw [ev, e3]
        have l2 := wd_len3 hq2 htx hs
        have tle2 := te_le (b := b) hq2
        have hnp2 := np_ok (b := b) hq2
        rw [l2] at hnp2
        have c3 := CS_wS c2
        obtain ⟨q3, eq3⟩ : ∃ q3, q3 = np b t q2 := ⟨_, rfl⟩
        rw [← eq3] at c3 hnp2 ⊢
        have g23 : gp b t (q2 + 3) = q3 := by rw [eq3, np, l2]
        have hq3 := CS_p c3
        obtain ⟨S3', eS3⟩ : ∃ S3', S3' = wS b t q3 S2' := ⟨_, rfl⟩
        have ck3 : CK S S3' (i + 1 + k) 0 := CK_tr ck2 (by rw [eS3]; exact CK_wS)
        rw [← eS3] at c3 ⊢
        have st3 : ∀ T qq j N, HS b t qq j 0 N vw iw p T → DQ l Gr n w d b t S T p i p1 Dn k (q2 + 3) j 246 (fun v => dE p p1 v j r) := fun T qq j N hH => by
          obtain ⟨v, T1, N1, hid, M1, pk1, p31, nb1, bj, rT, pa, pre⟩ := st2 T qq j N hH
          obtain ⟨T4, eT4⟩ : ∃ T4, T4 = zi (zi (zi T1 73 6 (nI q2)) 73 32 (nI r)) 73 6 (nI (q2 + 3)) := ⟨_, rfl⟩
          have M4 : MC b t (q2 + 3) (j + 1 + k) 0 0 N1 T4 := by rw [eT4]; exact MC_at (MC_x (MC_at M1 (by omega)) (by omega)) (by omega)
          have t32 : T4.1 73 32 = nI r := by rw [eT4, zi_k (by decide)]; exact zi_v
          have zc' : ∀ c a, c ≠ 73 → T4.1 c a = T1.1 c a := fun c a hc => by rw [eT4, zi_c hc, zi_c hc, zi_c hc]
          have pk4 : ∀ a, PK b t T1 T4 a 0 := fun a => by rw [eT4]; exact PK_tr (PK_tr (PK_zi (by omega)) (PK_zi (by omega))) (PK_zi (by omega))
          have p34 : P3 T1 T4 := by rw [eT4]; exact P3_tr (P3_tr (P3_zi (by omega)) (P3_zi (by omega))) (P3_zi (by omega))
          refine ⟨v, T4, N1, (pk4 0).2.2.2.2.2.2 v p1 hid, M4, PK_tr pk1 (pk4 j), P3_tr p31 p34, nb_le nb1 (by omega), bj, ⟨(zc' _ _ (by decide)).trans rT.1, (zc' _ _ (by decide)).trans rT.2.1, (zc' _ _ (by decide)).trans rT.2.2.1, (zc' _ _ (by decide)).trans rT.2.2.2⟩, fun a ha => sPar_k (pa a ha) (pk4 0).2.2.2.2.2.2 (fun _ _ _ => rfl) zc', fun Q kk => pre Q (b_Mo_defItem_229 hg (wm_sortWord hg ho htx M1.1 g12 (MC_f M1)) (fun A hA => ?_))⟩
          rcases hA with ⟨-, eA⟩ | ⟨y, -⟩
          · rw [er, ← eR] at eA
            rw [eA, ← eT4]
            refine b_Mo_defItem_233 (fun y => absurd (MC_f M4) y) (fun _ => ?_)
            rw [t32]
            exact kk
          · exact absurd hs y
        refine b_Reader_readDef_137 hg (w_expect (d := e + 1) hg ho c3) (fun S4 h4 => ?_)
        rcases h4 with ⟨k61, e4⟩ | ⟨k61, e4⟩
        · rw [e4]
          have hpt3 : q3 < t := tk_pos (by rw [k61]; decide)
          have hgt3 := np_gt (b := b) hpt3
          obtain ⟨te3, -⟩ := te_s htx hq3 (c := 61) (by decide) (by decide) (by decide) k61
          have c4 := CS_wS c3
          obtain ⟨q4, eq4⟩ : ∃ q4, q4 = np b t q3 := ⟨_, rfl⟩
          rw [← eq4] at c4 hgt3 ⊢
          have g34 : gp b t (q3 + 1) = q4 := by rw [eq4, np, te3]
          obtain ⟨S4', eS4⟩ : ∃ S4', S4' = wS b t q4 S3' := ⟨_, rfl⟩
          have ck4 : CK S S4' (i + 1 + k) 0 := CK_tr ck3 (by rw [eS4]; exact CK_wS)
          rw [← eS4] at c4 ⊢
          have hq4 := CS_p c4
          -- the reference ahead of its EXPR
          have st4 : ∀ T qq j N, HS b t qq j 0 N vw iw p T → ∃ v T1 N1, nid b t T1 v p1 ∧ MC b t (q3 + 1) (j + 2 + k) 0 0 N1 T1 ∧ PK b t T T1 j 0 ∧ P3 T T1 ∧ bud b t 12 (j + 2 + k) 0 N1 (q3 + 1) ∧ (T1.1 78 j = 26 ∧ T1.1 79 j = nI v ∧ T1.1 80 j = nI k ∧ T1.1 81 j = nI p1 ∧ T1.1 78 (j + 1 + k) = 28) ∧ (∀ a, a < k → sPar S T1 (nid b t T1) Dn i j a) ∧ (∀ Q, zW l Gr (zc n w) 168 M_Mo_defItem (d + 13) 269 [some (.ref 105), none, some (.int (nI p1)), some (.int (nI v)), some (.int (nI j)), none, some (.int (nI r)), none, none] [.int (nI (j + 1 + k))] T1 Q → zW l Gr (zc n w) 168 M_Mo_defItem (d + 13) 0 [some (.ref 105), some (.int (nI p)), none, none, none, none, none, none, none] [] (zi T 73 6 (nI p)) Q) := fun T qq j N hH => by
            have h5 : DQ l Gr n w d b t S T p i p1 Dn k (q3 + 1) j 260 (fun v => dE p p1 v j r) := dq_mv (st3 T qq j N hH) (by omega) (by omega) (fun v T1 N1 M1 Q kk => b_Mo_defItem_246 hg (wm_sg hg htx (by decide) (by decide) (by decide) M1.1 g23 k61) (fun A eA => by
              rw [eA]
              exact b_Mo_defItem_252 (fun _ => kk) (fun y => absurd (by rw [MC_f (MC_at (q' := q3 + 1) M1 (by omega))]; exact Int32.le_refl _) y)))
            obtain ⟨v, T1, N1, hid, M1, pk1, p31, nb1, bj, rT, pa, pre⟩ := h5
            have M2 : MC b t (q3 + 1) (j + 1 + k + 1) 0 0 N1 (mP T1 (j + 1 + k) 28 0 0 (nI p)) := MC_mP M1
            have r2 := mP_r (T := T1) (j0 := j + 1 + k) (x1 := 28) (x2 := 0) (x3 := 0) (x4 := nI p)
            have o2 : ∀ a, a < j + 1 + k → _ := fun a ha => mP_o (T := T1) (j0 := j + 1 + k) (a := a) (x1 := 28) (x2 := 0) (x3 := 0) (x4 := nI p) (by omega)
            have mk2 : MK b t T1 (mP T1 (j + 1 + k) 28 0 0 (nI p)) (j + 1 + k) 0 := MK_mP (Nat.le_refl _)
            have oj := o2 j (by omega)
            rw [show j + 1 + k + 1 = j + 2 + k by omega] at M2
            refine ⟨v, _, N1, nid_MK hid mk2, M2, PK_tr pk1 (PK_MK (MK_le mk2 (by omega) (Nat.le_refl _))), P3_tr p31 (P3_MK mk2), ⟨by omega, by omega, nb1⟩, ⟨oj.1.trans rT.1, oj.2.1.trans rT.2.1, oj.2.2.1.trans rT.2.2.1, oj.2.2.2.trans rT.2.2.2, r2.1⟩, fun a ha => ?_, fun Q kk => pre Q (b_Mo_defItem_260 hg (wm_put (MC_13 M1) (by omega)) (fun a A hv => ?_))⟩
            · obtain ⟨x, s, r, y1, y2, y3, y4, y5, y6, y7, y8, y9, y10⟩ := pa a ha
              have oa := o2 (j + 1 + a) (by omega)
              exact ⟨x, s, r, nid_MK y1 mk2, y2, y3, y4, y5, y6, oa.1.trans y7, oa.2.1.trans y8, oa.2.2.1.trans y9, oa.2.2.2.trans y10⟩
            · rw [hv.1, hv.2]
              exact kk
          have hDn : vp_in (nI Dn) 800 := vp_in_nI (by omega) (by omega)
          obtain ⟨S5, eS5⟩ : ∃ S5, S5 = zi (zi S4' 12 Dn (nI r)) 14 Dn (nI (i + 1 + k)) := ⟨_, rfl⟩
          have c5 : CS b t q4 (i + 1 + k) 0 S5 := by rw [eS5]; exact CS_o (CS_o c4 (by omega)) (by omega)
          have f5 : ∀ c a, ¬ (c = 12 ∧ a = Dn) → ¬ (c = 14 ∧ a = Dn) → S5.1 c a = S4'.1 c a := fun c a q1 q2 => by rw [eS5, zi_get, if_neg q2, zi_get, if_neg q1]
          have s512 : S5.1 12 Dn = nI r := by rw [eS5, zi_c (by decide)]; exact zi_v
          have s514 : S5.1 14 Dn = nI (i + 1 + k) := by rw [eS5]; exact zi_v
          have sk5 : SK S S5 i Dn := SK_tr (SK_CK (CK_le ck4 (by omega) (Nat.le_refl _))) (by rw [eS5]; exact SK_tr (SK_zi (by omega)) (SK_zi (by omega)))
          refine b_Reader_readDef_145 (R := fun S' => ER l Gr n w d b t S5 S' q4 (i + 1 + k) 0 0) hg hDn ?_ (fun S6 hE => ?_)
          · rw [nI_clamp (by omega), CS_n c4, ← eS5]
            exact KE0 _ _ _ _ c5 (by omega) (by omega)
          rw [CS_s c4]
          rcases hE with ⟨q5, i1, hE⟩ | ⟨f, pl, hE⟩
          · have c6 := hE.1
            have ck6 := hE.2.1
            have hlt6 := hE.2.2.1
            have hbd6 := hE.2.2.2.1
            have hq5 := CS_p c6
            have wb5 := c6.2.2.2.2.2.2.2.2.1
            refine b_Reader_readDef_186 hg (w_add (d := e + 6) hg (CS_f c6) (CS_n c6) (by omega)) (fun v A hv => ?_)
            rw [hv.2]
            have c7 : CS b t q5 (i1 + 1) 0 (cA S6 i1 5 (nI Dn) (nI q4) 0) := CS_cA c6
            have r7 := cA_r (S := S6) (i0 := i1) (x1 := 5) (x2 := nI Dn) (x3 := nI q4) (x4 := 0)
            have ck7 : CK S6 (cA S6 i1 5 (nI Dn) (nI q4) 0) i1 0 := CK_cA (Nat.le_refl _)
            obtain ⟨S7, eS7⟩ : ∃ S7, S7 = cA S6 i1 5 (nI Dn) (nI q4) 0 := ⟨_, rfl⟩
            rw [← eS7] at c7 r7 ck7 ⊢
            have ck57 : CK S5 S7 (i + 1 + k) 0 := CK_tr ck6 (CK_le ck7 (by omega) (Nat.le_refl _))
            obtain ⟨S8, eS8⟩ : ∃ S8, S8 = zi S7 7 i (nI (i1 + 1)) := ⟨_, rfl⟩
            have c8 : CS b t q5 (i1 + 1) 0 S8 := by rw [eS8]; exact CS_o c7 (by omega)
            have f8 : ∀ c a, ¬ (c = 7 ∧ a = i) → S8.1 c a = S7.1 c a := fun c a q1 => by rw [eS8, zi_get, if_neg q1]
            have sk58 : SK S5 S8 i (Dn + 1 + k) := SK_tr (SK_CK (CK_le ck57 (by omega) (Nat.le_refl _))) (by rw [eS8]; exact SK_zi (by omega))
            have sk8 : SK S0 S8 i Dn := SK_tr sk0 (SK_tr sk5 (SK_le sk58 (Nat.le_refl _) (by omega)))
            have hin : vp_in (nI i) 4000 := vp_in_nI (by omega) (by omega)
            -- the reference ahead of its ;
            have st5 : ∀ T qq j N, HS b t qq j 0 N vw iw p T → ∃ v T2 j1 N2, nid b t T2 v p1 ∧ MC b t q5 (j1 + 1) 0 0 N2 T2 ∧ PK b t T T2 j 0 ∧ P3 T T2 ∧ bud b t 11 (j1 + 1) 0 N2 q5 ∧ gX w S6 T2 (nid b t T2) q4 (i + 1 + k) i1 (j + 2 + k) j1 ∧ (T2.1 78 j = 26 ∧ T2.1 79 j = nI v ∧ T2.1 80 j = nI k ∧ T2.1 81 j = nI p1 ∧ T2.1 78 (j + 1 + k) = 28 ∧ T2.1 78 j1 = 29 ∧ T2.1 79 j1 = nI v ∧ T2.1 80 j1 = nI r ∧ T2.2 82 j = lN j1) ∧ (∀ a, a < k → sPar S T2 (nid b t T2) Dn i j a) ∧
              (∀ Q, (tk b t q5 = 59 → zW l Gr (zc n w) 168 M_Mo_defItem (d + 13) 311 [none, none, none, none, none, none, none, none, none] [] (zi T2 73 6 (nI (q5 + 1))) Q) → (¬ tk b t q5 = 59 → zW l Gr (zc n w) 168 M_Mo_defItem (d + 13) 311 [none, none, none, none, none, none, none, none, none] [] (mF (zi T2 73 6 (nI q5)) 1 (nI q5)) Q) → zW l Gr (zc n w) 168 M_Mo_defItem (d + 13) 0 [some (.ref 105), some (.int (nI p)), none, none, none, none, none, none, none] [] (zi T 73 6 (nI p)) Q) := fun T qq j N hH => by
              obtain ⟨v, T1, N1, hid, M1, pk1, p31, b1, rT, pa, pre⟩ := st4 T qq j N hH
              obtain ⟨Y, j1, N2, kx, MY, mkY, bY, gx⟩ := x_okD (D := d + 11) (by omega) hg htx (by omega) hE M1 g34 b1
              have bx := gX_bnd gx
              have bY1 := bY.1
              have M2 : MC b t q5 (j1 + 1) 0 0 N2 (mP Y j1 29 (nI v) (nI r) (nI p1)) := MC_mP MY
              have r2 := mP_r (T := Y) (j0 := j1) (x1 := 29) (x2 := nI v) (x3 := nI r) (x4 := nI p1)
              have mk2 : MK b t Y (mP Y j1 29 (nI v) (nI r) (nI p1)) j1 0 := MK_mP (Nat.le_refl _)
              obtain ⟨A, eA⟩ : ∃ A, A = mP Y j1 29 (nI v) (nI r) (nI p1) := ⟨_, rfl⟩
              rw [← eA] at M2 r2 mk2
              obtain ⟨T2, eT2⟩ : ∃ T2, T2 = zj A 82 j (lN j1) := ⟨_, rfl⟩
              have M3 : MC b t q5 (j1 + 1) 0 0 N2 T2 := by rw [eT2]; exact MC_zj M2
              have t2 : ∀ c a, T2.1 c a = A.1 c a := fun c a => by rw [eT2]; rfl
              have mkA : MK b t T1 A (j + 2 + k) 0 := MK_tr mkY (MK_le mk2 (by omega) (Nat.le_refl _))
              have pkA : PK b t A T2 j 0 := by rw [eT2]; exact PK_zj (by omega)
              have n12 : ∀ v p, nid b t T1 v p → nid b t T2 v p := fun v p x => pkA.2.2.2.2.2.2 v p (nid_MK x mkA)
              have c0' := mkA.1 j (Nat.zero_le _) (by omega)
              have c1' := mkA.1 (j + 1 + k) (Nat.zero_le _) (by omega)
              refine ⟨v, T2, j1, N2, n12 v p1 hid, M3, PK_tr pk1 (PK_tr (PK_MK (MK_le mkA (by omega) (Nat.le_refl _))) pkA), P3_tr p31 (P3_tr (P3_MK mkA) (by rw [eT2]; exact P3_zj)), ⟨by omega, by omega, bY.2.2⟩, gX_cong (fun v p x => pkA.2.2.2.2.2.2 v p (nid_MK x mk2)) gx cgS_rfl (fun a q1 q2 => ?_), ⟨(t2 _ _).trans (c0'.1.trans rT.1), (t2 _ _).trans (c0'.2.1.trans rT.2.1), (t2 _ _).trans (c0'.2.2.1.trans rT.2.2.1), (t2 _ _).trans (c0'.2.2.2.1.trans rT.2.2.2.1), (t2 _ _).trans (c1'.1.trans rT.2.2.2.2), (t2 _ _).trans r2.1, (t2 _ _).trans r2.2.1, (t2 _ _).trans r2.2.2.1, by rw [eT2]; exact zj_v⟩, fun a ha => ?_, fun Q ky kn => pre Q (b_Mo_defItem_269 hg kx (fun A' eA' => ?_))⟩
              · have y := mk2.1 a (Nat.zero_le _) q2
                refine ⟨(t2 _ _).trans y.1, (t2 _ _).trans y.2.1, (t2 _ _).trans y.2.2.1, (t2 _ _).trans y.2.2.2.1, ?_⟩
                rw [eT2, zj_get, if_neg (by omega)]
                exact y.2.2.2.2
              · obtain ⟨x, s, r, y1, y2, y3, y4, y5, y6, y7, y8, y9, y10⟩ := pa a ha
                have oa := mkA.1 (j + 1 + a) (Nat.zero_le _) (by omega)
                exact ⟨x, s, r, n12 x s y1, y2, y3, y4, y5, y6, (t2 _ _).trans (oa.1.trans y7), (t2 _ _).trans (oa.2.1.trans y8), (t2 _ _).trans (oa.2.2.1.trans y9), (t2 _ _).trans (oa.2.2.2.1.trans y10)⟩
              · rw [eA']
                refine b_Mo_defItem_275 (fun _ => b_Mo_defItem_283 hg (wm_put (MC_13 MY) (by omega)) (fun a A' hv => ?_)) (fun y => absurd (by rw [MC_f MY]; exact Int32.le_refl _) y)
                rw [hv.1, hv.2, ← eA]
                have eq : zj A 82 ((nI j).toNatClampNeg) ((nI j1 : Int32)).toInt64 = T2 := by rw [nI_clamp (by omega), nI_l (by omega), eT2]
                by_cases y : tk b t q5 = 59
                · refine b_Mo_defItem_293 (R := fun A => A = zi T2 73 6 (nI (q5 + 1))) hg (vp_in_nI (by omega) (by omega)) ?_ (fun A eA => by rw [eA]; exact ky y)
                  rw [eq]
                  exact wm_sg hg htx (by decide) (by decide) (by decide) M3.1 (gp_wb wb5) y
                · refine b_Mo_defItem_293 (R := fun A => A = mF (zi T2 73 6 (nI q5)) 1 (nI q5)) hg (vp_in_nI (by omega) (by omega)) ?_ (fun A eA => by rw [eA]; exact kn y)
                  rw [eq]
                  exact wm_sgF hg htx (by decide) (by decide) (by decide) M3.1 (gp_wb wb5) (MC_f M3) y
            refine b_Reader_readDef_197 (R := fun S' => (tk b t q5 = 59 ∧ S' = wS b t (np b t q5) S8) ∨ (¬ tk b t q5 = 59 ∧ S' = cF S8 1 (nI q5))) hg hin ?_ (fun S9 h9 => b_Reader_readDef_220 ⟨rfl, ?_⟩)
            · rw [nI_clamp (by omega), CS_n c7, ← eS8]
              exact w_expect (d := e + 1) hg ho c8
            rcases h9 with ⟨k59, e9⟩ | ⟨k59, e9⟩
            · rw [e9]
              have hpt5 : q5 < t := tk_pos (by rw [k59]; decide)
              have hgt5 := np_gt (b := b) hpt5
              obtain ⟨te5, -⟩ := te_s htx hq5 (c := 59) (by decide) (by decide) (by decide) k59
              have c9 := CS_wS c8
              obtain ⟨S9', eS9⟩ : ∃ S9', S9' = wS b t (np b t q5) S8 := ⟨_, rfl⟩
              have w9 : ∀ c a, c ≠ 38 → S9'.1 c a = S8.1 c a := fun c a hc => by rw [eS9]; exact wS_c hc
              rw [← eS9] at c9 ⊢
              have sk9 : SK S0 S9' i Dn := SK_tr sk8 (by rw [eS9]; exact SK_wS)
              -- cells that the EXPR leaves
              have fN : ∀ c a, ¬ (3 ≤ c ∧ c ≤ 7) → ¬ (34 ≤ c ∧ c ≤ 38) → S9'.1 c a = S5.1 c a := fun c a q1 q2 => by
                rw [w9 c a (by omega), f8 c a (by omega)]
                exact ck57.2.2.1 c a q1 q2
              have fS : ∀ c a, ¬ (3 ≤ c ∧ c ≤ 7) → ¬ (34 ≤ c ∧ c ≤ 38) → ¬ (c = 12 ∧ a = Dn) → ¬ (c = 14 ∧ a = Dn) → S9'.1 c a = S.1 c a := fun c a q1 q2 q3 q4 => by
                rw [fN c a q1 q2, f5 c a q3 q4]
                exact ck4.2.2.1 c a q1 q2
              have cod : ∀ a, a < i + 1 + k → S9'.1 4 a = S.1 4 a ∧ S9'.1 5 a = S.1 5 a ∧ S9'.1 6 a = S.1 6 a := fun a ha => by
                have y := ck57.1 a (Nat.zero_le _) ha
                have z := ck4.1 a (Nat.zero_le _) ha
                refine ⟨?_, ?_, ?_⟩
                · rw [w9 _ _ (by decide), f8 _ _ (by omega), y.1, f5 _ _ (by omega) (by omega)]; exact z.1
                · rw [w9 _ _ (by decide), f8 _ _ (by omega), y.2.1, f5 _ _ (by omega) (by omega)]; exact z.2.1
                · rw [w9 _ _ (by decide), f8 _ _ (by omega), y.2.2.1, f5 _ _ (by omega) (by omega)]; exact z.2.2.1
              have e89 : S9'.1 8 9 = nI (Dn + 1 + k) := by rw [fS 8 9 (by omega) (by omega) (by omega) (by omega)]; exact x89
              have hx9 : hxS S9' i (i1 + 1) p (np b t q5) := by
                have B : Hx S9' (i + 1 + k) i1 1 1 341 ((np b t q5 : Int) - p) := Hx_cg (Hx_mono hbd6.2.2 (by omega) (by omega)) (fun a q1 q2 => by
                  have y := ck7.1 a (Nat.zero_le _) q2
                  exact ⟨(w9 4 a (by decide)).trans ((f8 4 a (by omega)).trans y.1), (w9 5 a (by decide)).trans ((f8 5 a (by omega)).trans y.2.1), (w9 7 a (by decide)).trans ((f8 7 a (by omega)).trans y.2.2.2)⟩)
                have A := hx_par (S := S9') (i := i + 1) (h1 := 341) (h2 := (np b t q5 : Int) - p) (by omega) (by omega) k (fun a ha => (cod _ (by omega)).1.trans (hq.2.1 a ha))
                have A2 := Hx_app (Hx_cs ((cod i (by omega)).1.trans rS.1) (by decide) (by decide) (by decide) A (by omega) (by omega)) B (H1 := 341) (H2 := (np b t q5 : Int) - p) (Int.le_refl _) (by omega) (Int.le_refl _) (by omega)
                exact Hx_eq (Hx_sn (e1 := -1) (e2 := -1) A2 ((w9 4 i1 (by decide)).trans ((f8 4 i1 (by omega)).trans r7.1)) (by decide) (by decide) (by decide) (by omega) (by omega)) (by omega) (by omega)
              refine Or.inl ⟨np b t q5, i1 + 1, Dn + 1 + k, vw, iw, ⟨c9, by rw [fS 8 1 (by omega) (by omega) (by omega) (by omega)]; exact x81, e89, ?_, by omega, by omega, hvw, NS_k hq.2.2 (fun a ha => ⟨fS 9 a (by omega) (by omega) (by omega) (by omega), fS 10 a (by omega) (by omega) (by omega) (by omega)⟩)⟩, Ic_SK hc sk9, JK_SK sk9, by omega, by omega, ⟨by omega, by omega, hx9⟩, Nat.le_refl _, fun T qq j N hH => ?_⟩
              · rw [w9 _ _ (by decide), f8 _ _ (by omega), ck57.2.2.2.1 10 (by decide), f5 _ _ (by omega) (by omega), ck4.2.2.2.1 10 (by decide)]; exact x34
              · obtain ⟨v, T2, j1, N2, hid, M2, pk2, p32, b2, gx, rT, pa, kz⟩ := st5 T qq j N hH
                have bx := gX_bnd gx
                have b21 := b2.1
                have M3 : MC b t (q5 + 1) (j1 + 1) 0 0 N2 (zi T2 73 6 (nI (q5 + 1))) := MC_at M2 (by omega)
                have pk3 : ∀ a, PK b t T2 (zi T2 73 6 (nI (q5 + 1))) a 0 := fun a => PK_zi (by omega)
                have zc' : ∀ c a, c ≠ 73 → (zi T2 73 6 (nI (q5 + 1))).1 c a = T2.1 c a := fun c a hc => zi_c hc
                have p33 : P3 T (zi T2 73 6 (nI (q5 + 1))) := P3_tr p32 (P3_zi (by omega))
                have ci := cod i (by omega)
                refine ⟨zi T2 73 6 (nI (q5 + 1)), q5 + 1, j1 + 1, N2, dsp hH (e_Mo_defItem (kz _ (fun _ => b_Mo_defItem_311 ⟨rfl, rfl⟩) (fun y => absurd k59 y))), ⟨⟨M3, p33.1.trans hH.1.2.1, p33.2.2.trans hH.1.2.2.1, p33.2.1.trans hH.1.2.2.2⟩, by rw [np, te5], ⟨by omega, by omega, nb_le b2.2.2 (by omega)⟩⟩, PK_tr pk2 (pk3 j), Or.inr (Or.inr (Or.inl ⟨⟨Dn, v, p1, r, k, q4, i1, j1, ⟨rfl, rfl⟩, (pk3 0).2.2.2.2.2.2 v p1 hid, ⟨?_, ?_, ?_, ?_, ?_⟩, ?_, hr, fun a ha => ?_, gX_cong (pk3 0).2.2.2.2.2.2 gx (fun a q1 q2 => ?_) (fun a q1 q2 => (pk3 j1).1 a (Nat.zero_le _) q2), rfl, rfl, ci.1.trans rS.1, ci.2.1.trans rS.2.1, ci.2.2.trans rS.2.2, ?_, ?_, ?_, ?_, (zc' _ _ (by decide)).trans rT.1, (zc' _ _ (by decide)).trans rT.2.1, (zc' _ _ (by decide)).trans rT.2.2.1, (zc' _ _ (by decide)).trans rT.2.2.2.1, rT.2.2.2.2.2.2.2.2, (zc' _ _ (by decide)).trans rT.2.2.2.2.1, (zc' _ _ (by decide)).trans rT.2.2.2.2.2.1, (zc' _ _ (by decide)).trans rT.2.2.2.2.2.2.1, (zc' _ _ (by decide)).trans rT.2.2.2.2.2.2.2.1⟩, rfl, rfl⟩)), fun _ => by omega, fun y => by rw [Nat.add_sub_cancel, w9 4 i1 (by decide), f8 4 i1 (by omega), r7.1] at y; exact absurd y (by decide)⟩
                · rw [fS 9 Dn (by omega) (by omega) (by omega) (by omega)]; exact rD.1
                · rw [fS 11 Dn (by omega) (by omega) (by omega) (by omega)]; exact rD.2.1
                · rw [fN 12 Dn (by omega) (by omega)]; exact s512
                · rw [fS 13 Dn (by omega) (by omega) (by omega) (by omega)]; exact rD.2.2
                · rw [fN 14 Dn (by omega) (by omega)]; exact s514
                · rw [fS 15 Dn (by omega) (by omega) (by omega) (by omega)]; exact x15
                · obtain ⟨x, s, r', y1, y2, y3, y4, y5, y6, y7, y8, y9, y10⟩ := pa a ha
                  have ca := cod (i + 1 + a) (by omega)
                  exact ⟨x, s, r', (pk3 0).2.2.2.2.2.2 x s y1, y2, ⟨(fS 9 _ (by omega) (by omega) (by omega) (by omega)).trans y3.1, (fS 11 _ (by omega) (by omega) (by omega) (by omega)).trans y3.2.1, (fS 12 _ (by omega) (by omega) (by omega) (by omega)).trans y3.2.2.1, (fS 13 _ (by omega) (by omega) (by omega) (by omega)).trans y3.2.2.2.1, (fS 14 _ (by omega) (by omega) (by omega) (by omega)).trans y3.2.2.2.2⟩, ca.1.trans y4, ca.2.1.trans y5, ca.2.2.trans y6, (zc' _ _ (by decide)).trans y7, (zc' _ _ (by decide)).trans y8, (zc' _ _ (by decide)).trans y9, (zc' _ _ (by decide)).trans y10⟩
                · have y := ck7.1 a (Nat.zero_le _) q2
                  refine ⟨?_, ?_, ?_, ?_⟩
                  · rw [w9 _ _ (by decide), f8 _ _ (by omega)]; exact y.1
                  · rw [w9 _ _ (by decide), f8 _ _ (by omega)]; exact y.2.1
                  · rw [w9 _ _ (by decide), f8 _ _ (by omega)]; exact y.2.2.1
                  · rw [w9 _ _ (by decide), f8 _ _ (by omega)]; exact y.2.2.2
                · rw [w9 _ _ (by decide), eS8]; exact zi_v
                · rw [w9 _ _ (by decide), f8 _ _ (by omega)]; exact r7.1
                · rw [w9 _ _ (by decide), f8 _ _ (by omega)]; exact r7.2.1
                · rw [w9 _ _ (by decide), f8 _ _ (by omega)]; exact r7.2.2.1
            · rw [e9]
              refine Or.inr ⟨1, nI q5, JB_F (by decide) (JK_SK (SK_0 sk8)), fun T qq j N hH => ?_⟩
              obtain ⟨v, T2, j1, N2, hid, M2, pk2, p32, b2, gx, rT, pa, kz⟩ := st5 T qq j N hH
              exact PZ_of (T' := mF (zi T2 73 6 (nI q5)) 1 (nI q5)) (by decide) (dsp hH (e_Mo_defItem (kz _ (fun y => absurd y k59) (fun _ => b_Mo_defItem_311 ⟨rfl, rfl⟩)))) mF_f.1 mF_f.2 (PK_tr (PK_0 pk2) (PK_tr (PK_zi (by omega)) PK_mF))
          · have f6 : ¬ S6.1 3 5 = 0 := by rw [hE.1.2.1]; exact nz hE.1.1
            refine b_Reader_readDef_186 hg (w_addN (d := e + 6) hg f6) (fun v A hv => ?_)
            rw [hv.2]
            refine b_Reader_readDef_197 hg (vp_in_nI (by omega) (by omega)) (w_expectN (d := e + 1) hg (by rw [zi_c (by decide)]; exact f6)) (fun A eA => b_Reader_readDef_220 ⟨rfl, ?_⟩)
            rw [eA]
            refine Or.inr ⟨f, pl, ⟨hE.1.1, by rw [zi_c (by decide)]; exact hE.1.2.1, by rw [zi_c (by decide)]; exact hE.1.2.2.1, JK_tr (JK_SK (SK_tr (SK_0 sk0) (SK_0 sk5))) (JK_tr (JK_SK (SK_CK hE.1.2.2.2)) (JK_SK (SK_zi (by omega))))⟩, fun T qq j N hH => ?_⟩
            obtain ⟨v, T1, N1, hid, M1, pk1, p31, b1, rT, pa, pre⟩ := st4 T qq j N hH
            obtain ⟨Y, kx, y7, y8, mkY, -⟩ := x_badD (l := l) (Gr := Gr) (n := n) (w := w) (d := d) (D := d + 11) (by omega) hE M1 g34 b1
            refine PZ_of (T' := Y) (nz hE.1.1) (dsp hH (e_Mo_defItem (pre _ (b_Mo_defItem_269 hg kx (fun A eA => ?_))))) y7 y8 (PK_tr (PK_0 pk1) (PK_MK mkY))
            rw [eA]
            exact b_Mo_defItem_275 (fun y => absurd (by rw [← y7]; exact y) hE.1.1) (fun _ => b_Mo_defItem_282 ⟨rfl, rfl⟩)
        · rw [e4]
          refine df_145 hg (by omega) (by omega) (by rw [cF_f.1]; decide) (badJ S3' 1 (nI q3) (by decide) (SK_tr (SK_0 sk0) (SK_CK (CK_le ck3 (Nat.zero_le _) (Nat.le_refl _)))) (fun T qq j N hH => ?_))
          obtain ⟨v, T1, N1, hid, M1, pk1, p31, nb1, bj, rT, pa, pre⟩ := st3 T qq j N hH
          have y7 : (mF (zi T1 73 6 (nI q3)) 1 (nI q3)).1 73 7 = 1 := mF_f.1
          refine PZ_of (T' := mF (zi T1 73 6 (nI q3)) 1 (nI q3)) (by decide) (dsp hH (e_Mo_defItem (pre _ (b_Mo_defItem_246 hg (wm_sgF hg htx (by decide) (by decide) (by decide) M1.1 g23 (MC_f M1) k61) (fun A eA => ?_))))) y7 mF_f.2 (PK_tr (PK_0 pk1) (PK_tr (PK_zi (by omega)) PK_mF))
          rw [eA]
          exact b_Mo_defItem_252 (fun y => absurd (by rw [← y7]; exact y) (show fz 1 by decide)) (fun _ => b_Mo_defItem_259 ⟨rfl, rfl⟩)
      · rw [e3]
        refine df_137 hg (by omega) (by omega) (by rw [cF_f.1]; decide) (badJ S2' 1 (nI q2) (by decide) (SK_tr (SK_0 sk0) (SK_CK (CK_le ck2 (Nat.zero_le _) (Nat.le_refl _)))) (fun T qq j N hH => ?_))
        obtain ⟨v, T1, N1, hid, M1, pk1, p31, nb1, bj, rT, pa, pre⟩ := st2 T qq j N hH
        obtain ⟨Y, eY⟩ : ∃ Y, Y = mF (zi (zi T1 73 6 (nI q2)) 73 32 0) 1 (nI q2) := ⟨_, rfl⟩
        have y7 : Y.1 73 7 = 1 := by rw [eY]; exact mF_f.1
        refine PZ_of (T' := Y) (by decide) (dsp hH (e_Mo_defItem (pre _ (b_Mo_defItem_229 hg (wm_sortWord hg ho htx M1.1 g12 (MC_f M1)) (fun A hA => ?_))))) y7 (by rw [eY]; exact mF_f.2) (PK_tr (PK_0 pk1) (by rw [eY]; exact PK_tr (PK_tr (PK_zi (by omega)) (PK_zi (by omega))) PK_mF))
        rcases hA with ⟨y, -⟩ | ⟨-, eA⟩
        · exact absurd y hs
        · rw [eA, ← eY]
          exact df_r233 y7 (by decide) rfl
    · rw [e2]
      refine df_133 hg (by omega) (by omega) (by rw [cF_f.1]; decide) (badJ S1' 1 (nI q1) (by decide) (SK_tr (SK_0 sk0) (SK_CK (CK_le ck1 (Nat.zero_le _) (Nat.le_refl _)))) (fun T qq j N hH => ?_))
      obtain ⟨v, T1, N1, hid, M1, pk1, p31, nb1, bj, rT, pa, pre⟩ := st1 T qq j N hH
      exact PZ_of (T' := mF (zi T1 73 6 (nI q1)) 1 (nI q1)) (by decide) (dsp hH (e_Mo_defItem (pre _ (b_Mo_defItem_216 hg (wm_sgF hg htx (by decide) (by decide) (by decide) M1.1 g01 (MC_f M1) k58) (fun A eA => by rw [eA]; exact df_r222 mF_f.1 (by decide) rfl))))) mF_f.1 mF_f.2 (PK_tr (PK_0 pk1) (PK_tr (PK_zi (by omega)) PK_mF))
  · rw [e1]
    refine df_127 hg (by omega) (by omega) (by rw [cF_f.1]; decide) (badJ S 1 (nI q) (by decide) (SK_0 sk0) (fun T qq j N hH => ?_))
    obtain ⟨a1, g1, v, T1, N1, hid, M1, pk1, p31, nb1, bj, rT, pa, pre⟩ := st0 T qq j N hH
    exact PZ_of (T' := mF (zi T1 73 6 (nI q)) 1 (nI q)) (by decide) (dsp hH (e_Mo_defItem (pre _ (b_Mo_defItem_203 hg (wm_sgF hg htx (by decide) (by decide) (by decide) M1.1 g1 (MC_f M1) k41) (fun A eA => by rw [eA]; exact df_r209 mF_f.1 (by decide) rfl))))) mF_f.1 mF_f.2 (PK_tr (PK_0 pk1) (PK_tr (PK_zi (by omega)) PK_mF))
end DET
