/-! input on both sides -/
section INQ
variable {l : Launch} {Gr : zG} {n w : Nat} {d : Nat} {b : Nat → Int32} {t p i ws dp p' i' q j m N X u k D D' vw iw s e : Nat} {S S' S'' T T' T'' : zS}
/-- the reference behind a FAULT -/
theorem in_r38 {Y : zS} {f : Int32} {a c : Option Value} (y7 : Y.1 73 7 = f) (hf : fz f) {x2 x3 : Int32} {Q : zS → Prop} (q : Q Y) : zW l Gr (zc n w) 168 M_Mo_inputItem (d + 13) 38 (nL (some (.int x2)) (some (.int x3)) none) [] Y (fun v S' => v = none ∧ Q S') :=
  b_Mo_inputItem_38 (fun _ => b_Mo_inputItem_57 (fun _ => b_Mo_inputItem_77 (fun _ => b_Mo_inputItem_88 (fun y => absurd (by rw [← y7]; exact y) hf) (fun _ => b_Mo_inputItem_95 ⟨rfl, q⟩)) (fun y => absurd (y7.symm.trans y) (nz hf))) (fun y => absurd (y7.symm.trans y) (nz hf))) (fun y => absurd (y7.symm.trans y) (nz hf))
theorem in_r57 {Y : zS} {f : Int32} (y7 : Y.1 73 7 = f) (hf : fz f) {x2 x3 : Int32} {Q : zS → Prop} (q : Q Y) : zW l Gr (zc n w) 168 M_Mo_inputItem (d + 13) 57 (nL (some (.int x2)) (some (.int x3)) none) [] Y (fun v S' => v = none ∧ Q S') :=
  b_Mo_inputItem_57 (fun _ => b_Mo_inputItem_77 (fun _ => b_Mo_inputItem_88 (fun y => absurd (by rw [← y7]; exact y) hf) (fun _ => b_Mo_inputItem_95 ⟨rfl, q⟩)) (fun y => absurd (y7.symm.trans y) (nz hf))) (fun y => absurd (y7.symm.trans y) (nz hf))
theorem in_r77 {Y : zS} {f : Int32} (y7 : Y.1 73 7 = f) (hf : fz f) {x2 x3 x4 : Int32} {Q : zS → Prop} (q : Q Y) : zW l Gr (zc n w) 168 M_Mo_inputItem (d + 13) 77 (nL (some (.int x2)) (some (.int x3)) (some (.int x4))) [] Y (fun v S' => v = none ∧ Q S') :=
  b_Mo_inputItem_77 (fun _ => b_Mo_inputItem_88 (fun y => absurd (by rw [← y7]; exact y) hf) (fun _ => b_Mo_inputItem_95 ⟨rfl, q⟩)) (fun y => absurd (y7.symm.trans y) (nz hf))
theorem in_r88 {Y : zS} {f : Int32} (y7 : Y.1 73 7 = f) (hf : fz f) {x2 x3 x4 : Int32} {Q : zS → Prop} (q : Q Y) : zW l Gr (zc n w) 168 M_Mo_inputItem (d + 13) 88 (nL (some (.int x2)) (some (.int x3)) (some (.int x4))) [] Y (fun v S' => v = none ∧ Q S') :=
  b_Mo_inputItem_88 (fun y => absurd (by rw [← y7]; exact y) hf) (fun _ => b_Mo_inputItem_95 ⟨rfl, q⟩)
/-- the class behind a FAULT -/
theorem in_c39 (hg : ip_gk (lg_tbl, vwCl, Gr)) {X : zS} {x1 x2 : Int32} (hX : ¬ X.1 3 5 = 0) {Q : zS → Prop} (q : Q X) : zW l Gr (zc n w) 168 M_Reader_readInput (d + 9) 39 [some (.ref 66), some (.int x1), some (.int x2), none] [] X (fun v S' => v = none ∧ Q S') := by
  refine b_Reader_readInput_39 hg (w_typedN hg hX) (fun v A hv => ?_)
  rw [hv.1, hv.2]
  exact b_Reader_readInput_52 (fun _ => b_Reader_readInput_111 hg (w_expectN hg hX) (fun A eA => b_Reader_readInput_117 ⟨rfl, by rw [eA]; exact q⟩)) (fun y => absurd y hX)
theorem in_c31 (hg : ip_gk (lg_tbl, vwCl, Gr)) {X : zS} {x1 : Int32} {y : Int64} (hX : ¬ X.1 3 5 = 0) {Q : zS → Prop} (q : Q X) : zW l Gr (zc n w) 168 M_Reader_readInput (d + 9) 31 [some (.ref 66), some (.int x1), none, none] [.long y] X (fun v S' => v = none ∧ Q S') := by
  refine b_Reader_readInput_31 hg (w_expectN hg hX) (fun A eA => ?_)
  rw [eA]
  exact in_c39 hg hX q
theorem in_c19 (hg : ip_gk (lg_tbl, vwCl, Gr)) (htx : ∀ k, k < t → tx (b k)) {f x : Int32} {x1 : Int32} (hf : ¬ f = 0) (h : CS b t p i ws S) {Q : zS → Prop} (q : Q (cF S f x)) : zW l Gr (zc n w) 168 M_Reader_readInput (d + 9) 19 [some (.ref 66), some (.int x1), none, none] [] (cF S f x) (fun v S' => v = none ∧ Q S') := by
  refine b_Reader_readInput_19 hg (w_takeNumberN (d := d + 2) hg htx hf h) (fun v A eA => ?_)
  rw [eA]
  exact in_c31 hg (by rw [cF_f.1]; exact hf) q
set_option maxHeartbeats 4000000 in
theorem w_inp (hg : ip_gk (lg_tbl, vwCl, Gr)) (ho : ip_old (lg_tbl, vwCl, Gr)) (hn : 2 ≤ n ∧ n ≤ 16) (hw : 1 ≤ w ∧ w ≤ 32) (htx : ∀ k, k < t → tx (b k)) {Dn : Nat} (h : CN b t p i Dn vw S) (hc : Ic n w S iw) (hk : tk b t p = 200) {e : Nat} : zMv l Gr (zc n w) 168 M_Reader_readInput (e + 9) [.ref 66] S (fun S' => JR l Gr n w d b t S S' p i Dn vw iw) := by
  have h0 := h.1
  have ht := CS_t h0
  have hp := CS_p h0
  have hpt : p < t := tk_pos (by rw [hk]; decide)
  have hip := h.2.2.2.2.1
  have hDp := h.2.2.2.2.2.1
  have hvw := h.2.2.2.2.2.2
  have hiw := hc.1
  have e5 : te b t p = p + 5 := te_w htx hp (K := kw0) (c := 200) (fun s => wk_0) (by decide) (by decide) hk
  have hnp := np_ok (b := b) hp
  have dsp : ∀ {T T' q j N}, HS b t q j 0 N vw iw p T → zMv l Gr (zc n w) 168 M_Mo_inputItem (d + 13) [.ref 105, .int (nI p)] (zi T 73 6 (nI p)) (fun A => A = T') → PX l Gr n w d T T' := fun hH hm => px_inp hg ho htx hH hk hm
  have badJ : ∀ (X : zS) (f pl : Int32), fz f → SK S X 0 0 → (∀ T q j N, HS b t q j 0 N vw iw p T → PZ l Gr n w d b t T f pl) → JR l Gr n w d b t S (cF X f pl) p i Dn vw iw := fun X f pl hf hX hz => Or.inr ⟨f, pl, JB_F hf (JK_SK hX), hz⟩
  refine e_Reader_readInput (b_Reader_readInput_0 hg (w_adv hg ho h0) (fun A eA => ?_))
  rw [eA]
  have h1 := CS_wS h0
  obtain ⟨p1, ep1⟩ : ∃ p1, p1 = np b t p := ⟨_, rfl⟩
  rw [← ep1] at h1 hnp ⊢
  rw [e5] at hnp
  obtain ⟨S1, eS1⟩ : ∃ S1, S1 = wS b t p1 S := ⟨_, rfl⟩
  have ck1 : CK S S1 i 0 := by rw [eS1]; exact CK_wS
  rw [← eS1] at h1 ⊢
  have hp1 := CS_p h1
  have wb1 := h1.2.2.2.2.2.2.2.2.1
  refine b_Reader_readInput_7 hg (w_takeName hg ho h1) (fun v S2 hv => ?_)
  obtain ⟨ev, hv⟩ := hv
  rw [ev]
  rcases hv with ⟨k1, hsz, e2⟩ | ⟨hbad, e2⟩
  · rw [e2]
    have h2 := CS_wS h1
    have hpt1 : p1 < t := tk_pos (by rw [k1]; decide)
    have hgt1 := np_gt (b := b) hpt1
    have hnp1 := np_ok (b := b) hp1
    obtain ⟨p2, ep2⟩ : ∃ p2, p2 = np b t p1 := ⟨_, rfl⟩
    rw [← ep2] at h2 hgt1 hnp1 ⊢
    obtain ⟨S2', eS2⟩ : ∃ S2', S2' = wS b t p2 S1 := ⟨_, rfl⟩
    have ck2 : CK S S2' i 0 := CK_tr ck1 (by rw [eS2]; exact CK_wS)
    rw [← eS2] at h2 ⊢
    have hp2 := CS_p h2
    refine b_Reader_readInput_11 hg (w_expect hg ho h2) (fun S3 h3 => ?_)
    rcases h3 with ⟨k2, e3⟩ | ⟨k2, e3⟩
    · rw [e3]
      have h3 := CS_wS h2
      have hpt2 : p2 < t := tk_pos (by rw [k2]; decide)
      have te2 : te b t p2 = p2 + 2 := te_w htx hp2 (K := kw1) (c := 201) (fun s => wk_1) (by decide) (by decide) k2
      have hnp2 := np_ok (b := b) hp2
      rw [te2] at hnp2
      obtain ⟨p3, ep3⟩ : ∃ p3, p3 = np b t p2 := ⟨_, rfl⟩
      rw [← ep3] at h3 hnp2 ⊢
      obtain ⟨S3', eS3⟩ : ∃ S3', S3' = wS b t p3 S2' := ⟨_, rfl⟩
      have ck3 : CK S S3' i 0 := CK_tr ck2 (by rw [eS3]; exact CK_wS)
      rw [← eS3] at h3 ⊢
      have hp3 := CS_p h3
      have en : ((nI n - 1 : Int32)).toInt64 = lN (n - 1) := by
        rw [show (1 : Int32) = nI 1 from rfl, pk_sub (by omega), nI_l (by omega)]
      refine b_Reader_readInput_19 hg (by rw [en]; exact w_takeNumber (d := e + 2) (lo := 0) (hi := n - 1) hg ho (by omega) (by omega) htx h3) (fun v S4 hv => ?_)
      rcases hv with ⟨k3, hl, -, hV, ev3, e4⟩ | ⟨k3, hb3, e4⟩ | ⟨k3, e4⟩
      · obtain ⟨V, eV⟩ : ∃ V, V = nv b p3 (te b t p3 - p3) := ⟨_, rfl⟩
        rw [← eV] at hV ev3
        rw [e4, ev3]
        have h4 := CS_wS h3
        have hpt3 : p3 < t := tk_pos (by rw [k3]; decide)
        have hgt3 := np_gt (b := b) hpt3
        obtain ⟨p4, ep4⟩ : ∃ p4, p4 = np b t p3 := ⟨_, rfl⟩
        rw [← ep4] at h4 hgt3 ⊢
        obtain ⟨S4', eS4⟩ : ∃ S4', S4' = wS b t p4 S3' := ⟨_, rfl⟩
        have ck4 : CK S S4' i 0 := CK_tr ck3 (by rw [eS4]; exact CK_wS)
        rw [← eS4] at h4 ⊢
        have hp4 := CS_p h4
        refine b_Reader_readInput_31 hg (w_expect hg ho h4) (fun S5 h5 => ?_)
        rw [lN_i]
        rcases h5 with ⟨k4, e5'⟩ | ⟨k4, e5'⟩
        · rw [e5']
          have h5 := CS_wS h4
          have hpt4 : p4 < t := tk_pos (by rw [k4]; decide)
          have hgt4 := np_gt (b := b) hpt4
          obtain ⟨te4, -⟩ := te_s htx hp4 (c := 58) (by decide) (by decide) (by decide) k4
          obtain ⟨p5, ep5⟩ : ∃ p5, p5 = np b t p4 := ⟨_, rfl⟩
          rw [← ep5] at h5 hgt4 ⊢
          have g45 : gp b t (p4 + 1) = p5 := by rw [ep5, np, te4]
          obtain ⟨S5', eS5⟩ : ∃ S5', S5' = wS b t p5 S4' := ⟨_, rfl⟩
          have ck5 : CK S S5' i 0 := CK_tr ck4 (by rw [eS5]; exact CK_wS)
          have ck50 : CK S S5' 0 0 := CK_le ck5 (Nat.zero_le _) (Nat.le_refl _)
          rw [← eS5] at h5 ⊢
          have hp5 := CS_p h5
          have x17 : S5'.1 17 6 = nI iw := (ck50.2.2.1 17 6 (by omega) (by omega)).trans hc.2.1
          have x81 : S5'.1 8 1 = nI t := (ck50.2.2.1 8 1 (by omega) (by omega)).trans h.2.1
          have x89 : S5'.1 8 9 = nI Dn := (ck50.2.2.1 8 9 (by omega) (by omega)).trans h.2.2.1
          refine b_Reader_readInput_39 hg (by rw [x17]; exact w_typed (d := e) (kd := 0) (s := p1) (o := iw) (D := Dn) hg ho htx h5 x81 x89 (by omega) (by omega) hiw) (fun v S6 hv => ?_)
          rcases hv with ⟨r, z, p6, S6', hT, hle, ev6, c6, ck6, e6⟩ | ⟨r, z, p6, S6', hT, hle, ck6, e6⟩ | ⟨f, pl, S6', hT, hf, hf2, ck6, e6⟩
          · rw [ev6, e6]
            obtain ⟨t1, t2, hr, hz⟩ := TYO_le hp5 htx hT
            have c7 : CS b t p6 i 0 (nA S6' Dn 0 (nI p1) (nI (re pn b t p1)) (nI r) (nI z) (nI iw)) := CS_nA c6
            have rN := nA_r (S := S6') (D0 := Dn) (x1 := 0) (x2 := nI p1) (x3 := nI (re pn b t p1)) (x4 := nI r) (x5 := nI z) (x6 := nI iw)
            have cN : ∀ c a, ¬ (9 ≤ c ∧ c ≤ 15) → ¬ (c = 8 ∧ a = 9) → (nA S6' Dn 0 (nI p1) (nI (re pn b t p1)) (nI r) (nI z) (nI iw)).1 c a = S6'.1 c a := fun c a q1 q2 => nA_c q1 q2
            have skN : SK S6' (nA S6' Dn 0 (nI p1) (nI (re pn b t p1)) (nI r) (nI z) (nI iw)) i Dn := SK_nA (Nat.le_refl _)
            obtain ⟨S7, eS7⟩ : ∃ S7, S7 = nA S6' Dn 0 (nI p1) (nI (re pn b t p1)) (nI r) (nI z) (nI iw) := ⟨_, rfl⟩
            rw [← eS7] at c7 rN cN skN ⊢
            have ck06 : CK S S6' i 0 := CK_tr ck5 ck6
            have sk7 : SK S S7 i Dn := SK_tr (SK_CK ck06) skN
            have ci7 : Ic n w S7 iw := Ic_SK hc sk7
            have hDn : vp_in (nI Dn) 800 := vp_in_nI (by omega) (by omega)
            obtain ⟨bt, ebt⟩ : ∃ bt, bt = if r = 1 then 1 else w := ⟨_, rfl⟩
            have hbt : bt = 1 ∨ bt = w := by rw [ebt]; split <;> simp
            -- behind the number of bits
            have k89 : zW l Gr (zc n w) 168 M_Reader_readInput (e + 9) 89 [some (.ref 66), some (.int (nI p1)), none, some (.int (nI Dn))] [.int (nI bt), .int (nI V), .ref 49] S7 (fun v S' => v = none ∧ JR l Gr n w d b t S S' p i Dn vw iw) := by
              refine b_Reader_readInput_89 hg (w_words (D := Dn) (sz := z) (by omega) rN.2.2.2.1 hz) (fun v A hv => ?_)
              rw [hv.1, hv.2]
              refine b_Reader_readInput_97 hg (w_iadd (o := V) (bt := bt) (c := max 1 z) (by omega) (by omega) hbt (by omega) (by omega) ci7 hle) (fun S8 hA => ?_)
              obtain ⟨ci8, r8, o8, f8, g8⟩ := hA
              have c8 : CS b t p6 i 0 S8 := CS_fr c7 f8
              refine b_Reader_readInput_100 hg (w_add hg (CS_f c8) (CS_n c8) (by omega)) (fun v A hv => b_Reader_readInput_110 ?_)
              rw [hv.2]
              have c9 : CS b t p6 (i + 1) 0 (cA S8 i 2 (nI Dn) (nI p1) 0) := CS_cA c8
              have r9 := cA_r (S := S8) (i0 := i) (x1 := 2) (x2 := nI Dn) (x3 := nI p1) (x4 := 0)
              have ck9 : CK S8 (cA S8 i 2 (nI Dn) (nI p1) 0) i 0 := CK_cA (Nat.le_refl _)
              obtain ⟨S9, eS9⟩ : ∃ S9, S9 = cA S8 i 2 (nI Dn) (nI p1) 0 := ⟨_, rfl⟩
              rw [← eS9] at c9 r9 ck9 ⊢
              have jk8 : JK S7 S8 i Dn iw := ⟨fun a _ _ => ⟨f8 _ _ (by omega), f8 _ _ (by omega), f8 _ _ (by omega), f8 _ _ (by omega)⟩, fun a _ => ⟨f8 _ _ (by omega), f8 _ _ (by omega), f8 _ _ (by omega), f8 _ _ (by omega), f8 _ _ (by omega), f8 _ _ (by omega), f8 _ _ (by omega)⟩, fun a ha => o8 a ha, fun c a _ _ h3 _ _ => f8 c a h3, fun a _ _ => f8 _ _ (by omega), fun a _ => f8 _ _ (by omega), fun c a => by rw [g8]⟩
              have jk9 : JK S S9 i Dn iw := JK_tr (JK_SK sk7) (JK_tr jk8 (JK_SK (SK_CK ck9)))
              have p6t : p6 ≤ t := CS_p c9
              have wb6 := c9.2.2.2.2.2.2.2.2.1
              refine b_Reader_readInput_111 hg (w_expect hg ho c9) (fun SA hA => b_Reader_readInput_117 ⟨rfl, ?_⟩)
              -- the reference up to its ;
              have st : ∀ T q j N, HS b t q j 0 N vw iw p T → ∃ v Z q6 N2, nid b t Z v p1 ∧ MC b t q6 (j + 2) 0 0 N2 Z ∧ gp b t q6 = p6 ∧ PK b t T Z j 0 ∧ nb b t N2 q6 ∧ p + 11 ≤ q6 ∧ j ≤ 3 * p ∧ (Z.1 73 26 = nI 0 ∧ Z.1 73 30 = nI vw ∧ Z.1 73 29 = nI (iw + max 1 z)) ∧ (Z.1 78 j = 22 ∧ Z.1 79 j = nI v ∧ Z.1 81 j = nI p1 ∧ Z.1 78 (j + 1) = 23 ∧ Z.1 79 (j + 1) = nI v ∧ Z.1 80 (j + 1) = nI r ∧ Z.2 82 (j + 1) = lN (256 * V + z)) ∧
                (∀ Q, (tk b t p6 = 59 → zW l Gr (zc n w) 168 M_Mo_inputItem (d + 13) 195 [none, none, none, none, none, none, none] [] (zi Z 73 6 (nI (p6 + 1))) Q) → (¬ tk b t p6 = 59 → zW l Gr (zc n w) 168 M_Mo_inputItem (d + 13) 195 [none, none, none, none, none, none, none] [] (mF (zi Z 73 6 (nI p6)) 1 (nI p6)) Q) → zW l Gr (zc n w) 168 M_Mo_inputItem (d + 13) 0 (nL none none none) [] (zi T 73 6 (nI p)) Q) := fun T q j N hH => by
                obtain ⟨v, T6, q6, N2, hid, M6, g6, pk6, p36, nb6, hq6, bj, t31, t32, pre⟩ := ns_6 (l := l) (Gr := Gr) (n := n) (w := w) (d := d) hg ho hn htx hH hk ep1 wb1 k1 hsz ep2 k2 ep3 k3 hl eV hV ep4 k4 g45 hT
                have t29 : T6.1 73 29 = nI iw := p36.2.1.trans hH.1.2.2.2
                obtain ⟨Z, MZ, pkZ, z3, rZ, kz⟩ := ns_8 (l := l) (Gr := Gr) (n := n) (w := w) (d := d) (p1 := p1) (v := v) (V := V) hg htx M6 g6 (by omega) hz (by omega) hr hle t31 t32 t29
                exact ⟨v, Z, q6, N2, pkZ.2.2.2.2.2.2 v p1 hid, MZ, g6, PK_tr pk6 pkZ, nb6, hq6, bj, ⟨z3.1.trans (p36.1.trans hH.1.2.1), z3.2.1.trans (p36.2.2.trans hH.1.2.2.1), z3.2.2⟩, rZ, fun Q ky kn => pre Q (ns_7 hg hz hiw t31 t29 (kz Q ky kn))⟩
              rcases hA with ⟨k59, eA⟩ | ⟨k59, eA⟩
              · rw [eA]
                have hpt6 : p6 < t := tk_pos (by rw [k59]; decide)
                have hgt6 := np_gt (b := b) hpt6
                obtain ⟨te6, -⟩ := te_s htx p6t (c := 59) (by decide) (by decide) (by decide) k59
                have cA' := CS_wS c9
                have jkA : JK S (wS b t (np b t p6) S9) i Dn iw := JK_tr jk9 (JK_SK SK_wS)
                have skA : SK S9 (wS b t (np b t p6) S9) (i + 1) (Dn + 1) := SK_wS
                have ci9 : Ic n w S9 (iw + max 1 z) := Ic_SK ci8 (SK_CK (D := 0) ck9)
                have fA : ∀ c a, ¬ (3 ≤ c ∧ c ≤ 7) → ¬ (17 ≤ c ∧ c ≤ 23) → ¬ (34 ≤ c ∧ c ≤ 38) → (wS b t (np b t p6) S9).1 c a = S7.1 c a := fun c a q1 q2 q3 => by
                  rw [wS_c (by omega), ck9.2.2.1 c a q1 q3]
                  exact f8 c a q2
                have f34 : (wS b t (np b t p6) S9).1 34 10 = nI vw := by
                  rw [wS_c (by decide), ck9.2.2.2.1 10 (by decide), f8 34 10 (by omega), cN 34 10 (by omega) (by omega), ck06.2.2.2.1 10 (by decide)]
                  exact h.2.2.2.1
                have sA := skA.1 i (Nat.zero_le _) (by omega)
                refine Or.inl ⟨np b t p6, i + 1, Dn + 1, vw, iw + max 1 z, ⟨cA', ?_, ?_, f34, by omega, by omega, hvw.1, NS_S (s := p1) hvw.2 jkA.2.1 (by omega) ((fA 9 Dn (by omega) (by omega) (by omega)).trans rN.1) ((fA 10 Dn (by omega) (by omega) (by omega)).trans (by rw [eS7]; exact nA_10))⟩, Ic_SK ci9 skA, jkA, by omega, by omega, ⟨by omega, by omega, Hx_wS (Hx_cs r9.1 (by decide) (by decide) (by decide) (Hx_nil (by omega) (by omega)) (by omega) (by omega))⟩, by omega, fun T q j N hH => ?_⟩
                · rw [fA 8 1 (by omega) (by omega) (by omega), cN 8 1 (by omega) (by omega), ck06.2.2.1 8 1 (by omega) (by omega)]; exact h.2.1
                · rw [fA 8 9 (by omega) (by omega) (by omega)]; exact rN.2.2.2.2.2.1
                · obtain ⟨v, Z, q6, N2, hid, MZ, g6, pkZ, nb6, hq6, bj, z3, rZ, kz⟩ := st T q j N hH
                  have hq6p : q6 ≤ p6 := by rw [← g6]; exact gp_ge (MC_p2 MZ)
                  have M1 : MC b t (p6 + 1) (j + 2) 0 0 N2 (zi Z 73 6 (nI (p6 + 1))) := MC_at MZ (by omega)
                  have pk1 : ∀ a, PK b t Z (zi Z 73 6 (nI (p6 + 1))) a 0 := fun a => PK_zi (by omega)
                  have zc' : ∀ c a, c ≠ 73 → (zi Z 73 6 (nI (p6 + 1))).1 c a = Z.1 c a := fun c a hc => zi_c hc
                  have zk' : ∀ a, a ≠ 6 → (zi Z 73 6 (nI (p6 + 1))).1 73 a = Z.1 73 a := fun a ha => zi_k ha
                  refine ⟨zi Z 73 6 (nI (p6 + 1)), p6 + 1, j + 2, N2, dsp hH (e_Mo_inputItem (kz _ (fun _ => b_Mo_inputItem_195 ⟨rfl, rfl⟩) (fun y => absurd k59 y))), ⟨⟨M1, (zk' 26 (by decide)).trans z3.1, (zk' 30 (by decide)).trans z3.2.1, (zk' 29 (by decide)).trans z3.2.2⟩, by rw [np, te6], ⟨by omega, by omega, nb_le nb6 (by omega)⟩⟩, PK_tr pkZ (pk1 j), Or.inr (Or.inl ⟨⟨Dn, v, p1, r, z, V, by omega, (pk1 0).2.2.2.2.2.2 v p1 hid, ⟨?_, ?_, ?_, ?_, ?_⟩, hr, hz, rfl, hle, by omega, rfl, rfl, sA.1.trans r9.1, sA.2.1.trans r9.2.1, sA.2.2.1.trans r9.2.2.1, (zc' _ _ (by decide)).trans rZ.1, (zc' _ _ (by decide)).trans rZ.2.1, (zc' _ _ (by decide)).trans rZ.2.2.1, (zc' _ _ (by decide)).trans rZ.2.2.2.1, (zc' _ _ (by decide)).trans rZ.2.2.2.2.1, (zc' _ _ (by decide)).trans rZ.2.2.2.2.2.1, rZ.2.2.2.2.2.2, fun a q1 q2 => ?_⟩, rfl, Nat.le_succ _⟩), fun y => absurd ((sA.1.trans r9.1).symm.trans y) (by decide), fun y => by rw [Nat.add_sub_cancel, sA.1, r9.1] at y; exact absurd y (by decide)⟩
                  · rw [fA 9 Dn (by omega) (by omega) (by omega)]; exact rN.1
                  · rw [fA 11 Dn (by omega) (by omega) (by omega)]; exact rN.2.1
                  · rw [fA 12 Dn (by omega) (by omega) (by omega)]; exact rN.2.2.1
                  · rw [fA 13 Dn (by omega) (by omega) (by omega)]; exact rN.2.2.2.1
                  · rw [fA 14 Dn (by omega) (by omega) (by omega)]; exact rN.2.2.2.2.1
                  · have y := r8 a q1 q2
                    rw [wS_c (by decide), wS_c (by decide), ck9.2.2.1 18 a (by omega) (by omega), ck9.2.2.1 19 a (by omega) (by omega), ← ebt]
                    exact y
              · rw [eA]
                refine Or.inr ⟨1, nI p6, JB_F (by decide) (JK_0 jk9), fun T q j N hH => ?_⟩
                obtain ⟨v, Z, q6, N2, hid, MZ, g6, pkZ, nb6, hq6, bj, z3, rZ, kz⟩ := st T q j N hH
                exact PZ_of (T' := mF (zi Z 73 6 (nI p6)) 1 (nI p6)) (by decide) (dsp hH (e_Mo_inputItem (kz _ (fun y => absurd y k59) (fun _ => b_Mo_inputItem_195 ⟨rfl, rfl⟩)))) mF_f.1 mF_f.2 (PK_tr (PK_0 pkZ) (PK_tr (PK_zi (by omega)) PK_mF))
            refine b_Reader_readInput_52 (fun y => absurd (CS_f c7) y) (fun _ => b_Reader_readInput_63 hDn (fun y => ?_) (fun y => ?_))
            · rw [nI_clamp (by omega), rN.2.2.1] at y
              have : bt = w := by rw [ebt, if_neg (fun x => y (by rw [x]; rfl))]
              rw [this] at k89
              exact b_Reader_readInput_85 k89
            · rw [nI_clamp (by omega), rN.2.2.1] at y
              have : bt = 1 := by rw [ebt, if_pos ((nI_eq (a := r) (b := 1) (by omega) (by omega)).mp y)]
              rw [this] at k89
              exact b_Reader_readInput_81 k89
          · rw [e6]
            have f6 : ¬ (cF S6' 2 (nI p1)).1 3 5 = 0 := by rw [cF_f.1]; decide
            refine b_Reader_readInput_52 (fun _ => b_Reader_readInput_111 hg (w_expectN hg f6) (fun A eA => b_Reader_readInput_117 ⟨rfl, ?_⟩)) (fun y => absurd y f6)
            rw [eA]
            refine badJ S6' 2 (nI p1) (by decide) (SK_CK (CK_tr ck50 ck6)) (fun T q j N hH => ?_)
            obtain ⟨t1, t2, hr, hz⟩ := TYO_le hp5 htx hT
            obtain ⟨v, T6, q6, N2, hid, M6, g6, pk6, p36, nb6, hq6, bj, t31, t32, pre⟩ := ns_6 (l := l) (Gr := Gr) (n := n) (w := w) (d := d) hg ho hn htx hH hk ep1 wb1 k1 hsz ep2 k2 ep3 k3 hl eV hV ep4 k4 g45 hT
            have t29 : T6.1 73 29 = nI iw := p36.2.1.trans hH.1.2.2.2
            refine PZ_of (T' := mF T6 2 (nI p1)) (by decide) (dsp hH (e_Mo_inputItem (pre _ (ns_7 hg hz hiw t31 t29 (b_Mo_inputItem_111 (fun y => ?_) (fun _ => b_Mo_inputItem_126 hg (wm_fail (MC_f M6)) (fun A eA => b_Mo_inputItem_132 ⟨rfl, eA⟩))))))) mF_f.1 mF_f.2 (PK_tr (PK_0 pk6) PK_mF)
            rw [t29, nI_add] at y
            exact absurd ((nI_leI (a := iw + max 1 z) (b := 256) (by omega) (by omega)).mp y) hle
          · rw [e6]
            have hfz : fz (nI f) := nI_nle (by omega) (by omega)
            have f6 : ¬ (cF S6' (nI f) (nI pl)).1 3 5 = 0 := by rw [cF_f.1]; exact nz hfz
            refine b_Reader_readInput_52 (fun _ => b_Reader_readInput_111 hg (w_expectN hg f6) (fun A eA => b_Reader_readInput_117 ⟨rfl, ?_⟩)) (fun y => absurd y f6)
            rw [eA]
            refine badJ S6' (nI f) (nI pl) hfz (SK_CK (CK_tr ck50 ck6)) (fun T q j N hH => ?_)
            obtain ⟨v, T5, N2, hid, M5, mk5, nb5, hp7, bj, pre⟩ := ns_5 (l := l) (Gr := Gr) (n := n) (w := w) (d := d) hg ho hn htx hH hk ep1 wb1 k1 hsz ep2 k2 ep3 k3 hl eV hV ep4 k4
            obtain ⟨Y, ky, y7, y8, pkY⟩ := wm_typeF (l := l) (Gr := Gr) (n := n) (w := w) (d := d + 6) hg ho htx M5 g45 hf hf2 hT
            exact PZ_of (T' := Y) (nz hfz) (dsp hH (e_Mo_inputItem (pre _ (b_Mo_inputItem_84 hg ky (fun A eA => by rw [eA]; exact in_r88 y7 hfz rfl))))) y7 y8 (PK_tr (PK_0 (PK_MK (k := 0) mk5)) (pkY 0 0))
        · rw [e5']
          refine in_c39 hg (by rw [cF_f.1]; decide) (badJ S4' 1 (nI p4) (by decide) (SK_CK (CK_le ck4 (Nat.zero_le _) (Nat.le_refl _))) (fun T q j N hH => ?_))
          obtain ⟨v, T4, N2, hid, M4, mk4, nb4, hp7, bj, pre⟩ := ns_4 (l := l) (Gr := Gr) (n := n) (w := w) (d := d) hg ho hn htx hH hk ep1 wb1 k1 hsz ep2 k2 ep3 k3 hl eV hV
          exact PZ_of (T' := mF (zi T4 73 6 (nI p4)) 1 (nI p4)) (by decide) (dsp hH (e_Mo_inputItem (pre _ (b_Mo_inputItem_71 hg (wm_sgF hg htx (by decide) (by decide) (by decide) M4.1 ep4.symm (MC_f M4) k4) (fun A eA => by rw [eA]; exact in_r77 mF_f.1 (by decide) rfl))))) mF_f.1 mF_f.2 (PK_tr (PK_0 (PK_MK (k := 0) mk4)) (PK_tr (PK_zi (by omega)) PK_mF))
      · rw [e4]
        refine in_c31 hg (by rw [cF_f.1]; decide) (badJ S3' 2 (nI p3) (by decide) (SK_CK (CK_le ck3 (Nat.zero_le _) (Nat.le_refl _))) (fun T q j N hH => ?_))
        obtain ⟨v, T3, N2, hid, M3, mk3, nb3, hp5', bj, pre⟩ := ns_3 (l := l) (Gr := Gr) (n := n) (w := w) (d := d) hg ho htx hH hk ep1 wb1 k1 hsz ep2 k2
        have g23 : gp b t (p2 + 2) = p3 := by rw [ep3, np, te2]
        have etd := isd_tk htx hp3 k3
        obtain ⟨Z, eZ⟩ : ∃ Z, Z = mF (zi (zj T3 73 12 (lN (nv b p3 (min (re pd b t p3 - p3) 10)))) 73 6 (nI (re pd b t p3))) 2 (nI p3) := ⟨_, rfl⟩
        have z7 : Z.1 73 7 = 2 := by rw [eZ]; exact mF_f.1
        refine PZ_of (T' := Z) (by decide) (dsp hH (e_Mo_inputItem (pre _ (b_Mo_inputItem_45 (R := fun A => A = Z) hg ?_ (fun A eA => by rw [eA]; exact in_r57 z7 (by decide) rfl))))) z7 (by rw [eZ]; exact mF_f.2) (PK_tr (PK_0 (PK_MK (k := 0) mk3)) (by rw [eZ]; exact PK_tr (PK_tr (PK_zj (by omega)) (PK_zi (by omega))) PK_mF))
        rw [en_r hn]
        have := wm_number (l := l) (Gr := Gr) (n := n) (w := w) (d := d + 10) (lo := 0) (hi := n - 1) hg (by omega) (by omega) M3.1 g23 (MC_f M3) ((tk_d htx hp3).mpr k3)
        obtain ⟨v0, A0, ⟨e0, X, eX, hX⟩, kk⟩ := this
        refine ⟨v0, A0, ⟨e0, ?_⟩, kk⟩
        rcases hX with ⟨y1, y2, y3, y⟩ | ⟨-, y⟩
        · rw [← etd] at y1 y2 y3
          exact absurd ⟨y1, y2, y3⟩ hb3
        · rw [y, eX, eZ]
      · rw [e4]
        refine in_c31 hg (by rw [cF_f.1]; decide) (badJ S3' 1 (nI p3) (by decide) (SK_CK (CK_le ck3 (Nat.zero_le _) (Nat.le_refl _))) (fun T q j N hH => ?_))
        obtain ⟨v, T3, N2, hid, M3, mk3, nb3, hp5', bj, pre⟩ := ns_3 (l := l) (Gr := Gr) (n := n) (w := w) (d := d) hg ho htx hH hk ep1 wb1 k1 hsz ep2 k2
        have g23 : gp b t (p2 + 2) = p3 := by rw [ep3, np, te2]
        exact PZ_of (T' := mF (zi T3 73 6 (nI p3)) 1 (nI p3)) (by decide) (dsp hH (e_Mo_inputItem (pre _ (b_Mo_inputItem_45 hg (wm_numberF (d := d + 10) hg M3.1 g23 (MC_f M3) (fun y => k3 ((tk_d htx hp3).mp y))) (fun A eA => by rw [eA]; exact in_r57 mF_f.1 (by decide) rfl))))) mF_f.1 mF_f.2 (PK_tr (PK_0 (PK_MK (k := 0) mk3)) (PK_tr (PK_zi (by omega)) PK_mF))
    · rw [e3]
      refine in_c19 hg htx (by decide) h2 (badJ S2' 1 (nI p2) (by decide) (SK_CK (CK_le ck2 (Nat.zero_le _) (Nat.le_refl _))) (fun T q j N hH => ?_))
      obtain ⟨v, T2, N2, hid, M2, mk2, nb2, hp5, bj, pre⟩ := ns_2 (l := l) (Gr := Gr) (n := n) (w := w) (d := d) hg ho htx hH hk ep1 wb1 k1 hsz
      refine PZ_of (T' := mF (zi T2 73 6 (nI p2)) 1 (nI p2)) (by decide) (dsp hH (e_Mo_inputItem (pre _ (b_Mo_inputItem_31 hg ho (wm_kwOf hg ho htx M2.1 ep2.symm (MC_f M2)) (fun A hA => ?_))))) mF_f.1 mF_f.2 (PK_tr (PK_0 (PK_MK (k := 0) mk2)) (PK_tr (PK_zi (by omega)) PK_mF))
      rcases hA with ⟨y, -⟩ | ⟨-, eA⟩
      · exact absurd y k2
      · rw [eA]
        exact in_r38 (a := none) (c := none) mF_f.1 (by decide) rfl
  · obtain ⟨f, ef⟩ : ∃ f : Int32, f = if tk b t p1 = 1 then 2 else 1 := ⟨_, rfl⟩
    have hfz : fz f := by rw [ef]; split <;> decide
    rw [← ef] at e2
    rw [e2]
    have f2 : ¬ (cF S1 f (nI p1)).1 3 5 = 0 := by rw [cF_f.1]; exact nz hfz
    refine b_Reader_readInput_11 hg (w_expectN hg f2) (fun A eA => ?_)
    rw [eA]
    refine in_c19 hg htx (nz hfz) h1 (badJ S1 f (nI p1) hfz (SK_CK (CK_le ck1 (Nat.zero_le _) (Nat.le_refl _))) (fun T q j N hH => ?_))
    obtain ⟨T1, M1, mk1, nb1, hp5, bj, pre⟩ := ns_1 (l := l) (Gr := Gr) (n := n) (w := w) (d := d) hg htx hH hk
    rw [← ep1] at M1
    have y7 : (mF (zi T1 73 6 (nI p1)) f (nI p1)).1 73 7 = f := mF_f.1
    refine PZ_of (T' := mF (zi T1 73 6 (nI p1)) f (nI p1)) (nz hfz) (dsp hH (e_Mo_inputItem (pre _ (b_Mo_inputItem_14 hg (wm_nameF (d := d + 6) hg ho htx M1.1 (gp_wb wb1) (MC_f M1) (hbad.imp id id)) (fun v A hv => ?_))))) y7 mF_f.2 (PK_tr (PK_0 (PK_MK (k := 0) mk1)) (PK_tr (PK_zi (by omega)) PK_mF))
    rw [hv.1, hv.2, ← ef]
    exact b_Mo_inputItem_23 (fun _ => in_r38 (a := none) (c := none) y7 hfz rfl) (fun y => absurd (y7.symm.trans y) (nz hfz))
end INQ
