/-! readIf of both: else -/
section IFU
variable {l : Launch} {Gr : zG} {n w : Nat} {d : Nat} {b : Nat → Int32} {t p i ws dp p' i' q j m N X u k D D' vw iw s e : Nat} {S S' S'' T T' T'' : zS}
/-- } else, and no if: the reference opens a BLOCK, or tells a FAULT -/
theorem px_else (hg : ip_gk (lg_tbl, vwCl, Gr)) (ho : ip_old (lg_tbl, vwCl, Gr)) (htx : ∀ k, k < t → tx (b k)) {p9 j1 : Nat} {Z Y : zS} (hs : HS b t q j (dp + 1) N vw iw p T) (hd : dp < 30) (h125 : tk b t p = 125) (hp9 : p9 ≤ t) (mZ : mA b t p9 Z) (n206 : ¬ tk b t p9 = 206)
    (kz : ∀ Q, zW l Gr (zc n w) 168 M_Mo_closeBlock (d + 13) 148 [some (.ref 105), none, some (.int (nI j1)), none] [] Z Q → zW l Gr (zc n w) 168 M_Mo_closeBlock (d + 13) 0 [some (.ref 105), none, none, none] [] (zi T 73 6 (nI p)) Q) (ko : zMv l Gr (zc n w) 168 M_Mo_openBlock (d + 12) [.ref 105, .int 2, .int (nI j1)] Z (fun A => A = Y)) : PX l Gr n w d T Y := by
  refine px_cl hg ho htx hs (by omega) (by omega) h125 (e_Mo_closeBlock (kz _ (b_Mo_closeBlock_148 hg ho (wm_isW6 hg ho mZ) (fun v A hv => ?_))))
  have i6 := tk_w htx hp9 (K := kw6) (c := 206) (fun s => wk_6) (by decide) (by decide)
  rw [hv.1, hv.2, if_neg (fun y => n206 (i6.mp y))]
  exact b_Mo_closeBlock_155 (fun _ => b_Mo_closeBlock_208 hg ko (fun A eA => b_Mo_closeBlock_214 ⟨rfl, eA⟩)) (fun z => absurd rfl z)
/-- } else if -/
theorem px_elif (hg : ip_gk (lg_tbl, vwCl, Gr)) (ho : ip_old (lg_tbl, vwCl, Gr)) (htx : ∀ k, k < t → tx (b k)) {p9 j1 : Nat} {Z Y : zS} (hs : HS b t q j (dp + 1) N vw iw p T) (hd : dp < 30) (h125 : tk b t p = 125) (hp9 : p9 ≤ t) (mZ : mA b t p9 Z) (h206 : tk b t p9 = 206) (z19 : Z.1 73 19 = nI dp) (z26 : Z.1 73 26 = nI dp)
    (kz : ∀ Q, zW l Gr (zc n w) 168 M_Mo_closeBlock (d + 13) 148 [some (.ref 105), none, some (.int (nI j1)), none] [] Z Q → zW l Gr (zc n w) 168 M_Mo_closeBlock (d + 13) 0 [some (.ref 105), none, none, none] [] (zi T 73 6 (nI p)) Q) (ki : zMv l Gr (zc n w) 168 M_Mo_ifStatement (d + 12) [.ref 105, .int (nI p9)] (zi (zi (zi (zi Z 73 19 (nI (dp + 1))) 87 dp 12) 88 dp (nI j1)) 73 26 (nI (dp + 1))) (fun A => A = Y)) : PX l Gr n w d T Y := by
  refine px_cl hg ho htx hs (by omega) (by omega) h125 (e_Mo_closeBlock (kz _ (b_Mo_closeBlock_148 hg ho (wm_isW6 hg ho mZ) (fun v A hv => ?_))))
  have i6 := tk_w htx hp9 (K := kw6) (c := 206) (fun s => wk_6) (by decide) (by decide)
  rw [hv.1, hv.2, if_pos (i6.mpr h206)]
  refine b_Mo_closeBlock_155 (fun z => absurd z (by decide)) (fun _ => b_Mo_closeBlock_158 hg (wm_deeper hg z19 hd) (fun A eA => ?_))
  rw [eA]
  have g26 : (zi Z 73 19 (nI (dp + 1))).1 73 26 = nI dp := by rw [zi_k (by decide)]; exact z26
  have g6 : (zi Z 73 19 (nI (dp + 1))).1 73 6 = nI p9 := by rw [zi_k (by decide)]; exact mZ.2.2.1
  refine b_Mo_closeBlock_166 (R := fun A => A = Y) hg (by rw [g26]; exact vp_in_nI (by omega) (by omega)) ?_ (fun A eA => b_Mo_closeBlock_205 (b_Mo_closeBlock_214 ⟨rfl, eA⟩))
  rw [g26, g6, nI_clamp (by omega), nI_1]
  exact ki
/-- } else { .. } -/
theorem it_else (hg : ip_gk (lg_tbl, vwCl, Gr)) (ho : ip_old (lg_tbl, vwCl, Gr)) (htx : ∀ k, k < t → tx (b k)) {S8 SF S11 S12 : zS} {p2 i1 p8 i8 vw8 D8 c p9 p12 i12 D12 vw12 : Nat} (hd : dp < 30) (h125 : tk b t p8 = 125) (h207 : tk b t (np b t p8) = 207) (ep9 : p9 = np b t (np b t p8)) (n206 : ¬ tk b t p9 = 206) (h123 : tk b t p9 = 123) (hM : IM l Gr n w d b t S8 T p i p2 i1 p8 i8 j dp vw vw8 iw D8 c)
    (hB : BOK l Gr n w d b t (wS b t (np b t p9) S11) S12 (np b t p9) (i8 + 1) D8 vw8 (dp + 1) p12 i12 D12 vw12) (h125' : tk b t p12 = 125) (skF : SK S8 SF i8 D8) (sk12 : SK S12 SF i12 D12) (rS : SF.1 4 i = 1 ∧ SF.1 6 i = nI p ∧ SF.1 4 i1 = 14 ∧ SF.1 6 i1 = nI p2 ∧ SF.1 4 i8 = 15 ∧ SF.1 5 i8 = nI i1 ∧ SF.1 4 i12 = 16 ∧ SF.1 5 i12 = nI i1 ∧ SF.1 6 i12 = nI p) : IT l Gr n w d b t SF T p i (np b t p12) (i12 + 1) j dp vw vw12 iw D12 c := by
  obtain ⟨T7, T8, q8, j1, j8, N8, k8, run, px8, hs8, t8, hj, gx, g8, rT, hc, pk7, pk8, pk78⟩ := hM
  have hp8 : p8 ≤ t := by rw [← hs8.2.1]; exact gp_le (MC_p2 hs8.1.1)
  have hnp8 := np_ok (b := b) hp8
  have hnp9 := np_ok (b := b) hnp8.2.2
  rw [← ep9] at hnp9
  obtain ⟨Z, MZ, z3, bZ, pkZ, rZ, oZ, kz⟩ := cb_else (l := l) (Gr := Gr) (n := n) (w := w) (d := d) hg ho htx hs8 hd h125 t8.1 h207 t8.2.1 hj.2
  rw [← ep9] at MZ bZ
  have bZ1 := bZ.1
  obtain ⟨T9, ko, hs9, t87, t88, pk9, tb9⟩ := ob_ok (l := l) (Gr := Gr) (n := n) (w := w) (s := j1) (K := 2) hg htx (by omega) MZ (gp_wb hnp9.1) h123 hd z3.1 z3.2.1 z3.2.2 ⟨by omega, bZ.2⟩
  have px9 : PX l Gr n w d T8 T9 := px_else hg ho htx hs8 hd h125 hnp9.2.2 MZ.1 n206 kz (ko (d + 9))
  obtain ⟨TA, qA, jA, NA, kA, pxA, hsA, pkA, gA⟩ := hB.2.2.2.2.2 T9 _ _ _ iw hs9 tb9
  have gb := gL_b gA
  have bA1 := hsA.2.2.1
  have hqA := MC_p2 hsA.1.1
  have ht := MC_t hsA.1.1
  have hcd := hc.1
  -- rows from T8 to TA
  have pkZA : PK b t Z TA (j8 + 1) dp := PK_tr pk9 (PK_le pkA (Nat.le_refl _) (by omega))
  have o8A : ∀ a, a < j8 → TA.1 78 a = T8.1 78 a ∧ TA.1 79 a = T8.1 79 a ∧ (a ≠ j1 → TA.1 80 a = T8.1 80 a) ∧ TA.1 81 a = T8.1 81 a ∧ TA.2 82 a = T8.2 82 a ∧ TA.1 89 a = T8.1 89 a := fun a ha => by
    have x := pkZA.1 a (Nat.zero_le _) (by omega)
    have x2 := pkZA.2.1 a (by omega)
    have y := oZ a ha
    exact ⟨x.1.trans y.1, x.2.1.trans y.2.1, fun hn => x.2.2.1.trans (y.2.2.1 hn), x.2.2.2.1.trans y.2.2.2.1, x.2.2.2.2.trans y.2.2.2.2.1, x2.trans y.2.2.2.2.2⟩
  have a80 : TA.1 80 j1 = nI j8 := (pkZA.1 j1 (Nat.zero_le _) (by omega)).2.2.1.trans rZ.1
  have a8 := pkZA.1 j8 (Nat.zero_le _) (by omega)
  have pk8A : PK b t T8 TA j dp := PK_tr (pkZ j (by omega)) (PK_le pkZA (by omega) (Nat.le_refl _))
  have hcA : CHN c TA j dp := CHN_k hc (fun a ha => pk8A.2.2.1 a ha) (fun a ha => ⟨(pk8A.1 a (Nat.zero_le _) ha).1, (pk8A.1 a (Nat.zero_le _) ha).2.2.1⟩)
  have a87 : TA.1 87 dp = 2 := (pkA.2.2.1 dp (by omega)).1.trans t87
  have a88 : TA.1 88 dp = nI j1 := (pkA.2.2.1 dp (by omega)).2.trans t88
  have e8 : ¬ j8 = 0 := by omega
  obtain ⟨Y, q', pxY, hsY, pkY, rY, oY⟩ := cb_end (l := l) (Gr := Gr) (n := n) (w := w) (d := d) (e := j8) (j0 := j) hg ho htx hsA hd h125' (Or.inl a87) a88 (by omega) a80 (by omega) hcA ⟨by omega, Or.inr (by omega)⟩ (by omega)
  rw [if_neg e8] at rY
  have pkj := pkY j (by omega) (Or.inr (by omega))
  have oY' : ∀ a, a < jA → Y.1 78 a = TA.1 78 a ∧ Y.1 79 a = TA.1 79 a ∧ (a ≠ j8 → Y.1 80 a = TA.1 80 a) ∧ Y.1 81 a = TA.1 81 a ∧ Y.2 82 a = TA.2 82 a ∧ Y.1 89 a = TA.1 89 a := fun a ha => by
    have x := oY a ha
    rw [if_neg e8] at x
    exact x
  have y80 : Y.1 80 j1 = nI j8 := ((oY' j1 (by omega)).2.2.1 (by omega)).trans a80
  have y8A : ¬ Y.1 80 j1 = nI jA := fun y => by
    have := (nI_eq (a := j8) (b := jA) (by omega) (by omega)).mp (y80.symm.trans y)
    omega
  refine ⟨T7, Y, q', jA + 2, NA, run, PX_tr px8 (PX_tr px9 (PX_tr pxA pxY)), hsY, PK_tr pk8 (PK_tr pk8A pkj), if_gT (by omega) skF hB.2.2.2.1 rS (fun v p x => pkj.2.2.2.2.2.2 v p (pk8A.2.2.2.2.2.2 v p x)) (fun a ha => ?_) gx g8 rT (k3 := kA) (j3 := jA) ?_ ⟨rY.2.1, rY.2.2.1, rY.2.2.2⟩ (Or.inr ⟨y80, y8A, (oY' j8 (by omega)).1.trans (a8.1.trans rZ.2.1), (oY' j8 (by omega)).2.1.trans (a8.2.1.trans rZ.2.2.1), rY.1⟩)⟩
  · have x := oY' a (by omega)
    have y := o8A a ha
    exact ⟨x.1.trans y.1, x.2.1.trans y.2.1, fun hn => (x.2.2.1 (by omega)).trans (y.2.2.1 hn), x.2.2.2.1.trans y.2.2.2.1, x.2.2.2.2.1.trans y.2.2.2.2.1, x.2.2.2.2.2.trans y.2.2.2.2.2⟩
  · rw [if_neg (fun y => y8A y.2)]
    exact gL_gT pkj.2.2.2.2.2.2 (Nat.le_refl _) sk12.2.1 gA (fun a q1 q2 => sk12.1 a (Nat.zero_le _) q2) ⟨fun a q1 q2 => ⟨(oY' a q2).1, (oY' a q2).2.1, (oY' a q2).2.2.1 (by omega), (oY' a q2).2.2.2.1, (oY' a q2).2.2.2.2.1⟩, fun a q1 q2 => (oY' a q2).2.2.2.2.2⟩
/-- what stands behind } else if: the reference at its if -/
theorem im_elif (hg : ip_gk (lg_tbl, vwCl, Gr)) (ho : ip_old (lg_tbl, vwCl, Gr)) (htx : ∀ k, k < t → tx (b k)) {S8 : zS} {p2 i1 p8 i8 vw8 D8 c p9 : Nat} (hd : dp < 30) (h125 : tk b t p8 = 125) (h207 : tk b t (np b t p8) = 207) (ep9 : p9 = np b t (np b t p8)) (h206 : tk b t p9 = 206) (hM : IM l Gr n w d b t S8 T p i p2 i1 p8 i8 j dp vw vw8 iw D8 c) :
    ∃ T7 T8 T9 j1 j8 N8 k8, (∀ x, d ≤ x → zMv l Gr (zc n w) 168 M_Mo_ifStatement (x + 12) [.ref 105, .int (nI p)] T (fun A => A = T7)) ∧ PX l Gr n w d T7 T8 ∧ HI b t (j8 + 1) (dp + 1) N8 vw8 iw p9 (c + 1) T9 ∧ (∀ Y, zMv l Gr (zc n w) 168 M_Mo_ifStatement (d + 12) [.ref 105, .int (nI p9)] T9 (fun A => A = Y) → PX l Gr n w d T8 Y) ∧ (j < j1 ∧ j1 < j8) ∧ gX w S8 T8 (nid b t T8) p2 (i + 1) i1 (j + 1) j1 ∧ gL (gT w (dp + 1) S8 T8 (nid b t T8) D8) k8 vw vw8 (i1 + 1) i8 (j1 + 1) j8 ∧ (T8.1 78 j = 20 ∧ T8.1 81 j = nI p ∧ T8.1 78 j1 = 35) ∧ PK b t T T7 j dp ∧ PK b t T T8 j dp ∧ (∀ a, a ≤ j1 → PK b t T8 T9 a dp) ∧ (T9.1 80 j1 = nI j8 ∧ T9.1 78 j8 = 36 ∧ T9.1 79 j8 = nI j1 ∧ T9.1 88 dp = nI j1) ∧ (∀ a, a < j8 → T9.1 78 a = T8.1 78 a ∧ T9.1 79 a = T8.1 79 a ∧ (a ≠ j1 → T9.1 80 a = T8.1 80 a) ∧ T9.1 81 a = T8.1 81 a ∧ T9.2 82 a = T8.2 82 a ∧ T9.1 89 a = T8.1 89 a) ∧ PK b t T7 T8 0 0 := by
  obtain ⟨T7, T8, q8, j1, j8, N8, k8, run, px8, hs8, t8, hj, gx, g8, rT, hc, pk7, pk8, pk78⟩ := hM
  have hp8 : p8 ≤ t := by rw [← hs8.2.1]; exact gp_le (MC_p2 hs8.1.1)
  have hnp8 := np_ok (b := b) hp8
  have hnp9 := np_ok (b := b) hnp8.2.2
  rw [← ep9] at hnp9
  obtain ⟨Z, MZ, z3, bZ, pkZ, rZ, oZ, kz⟩ := cb_else (l := l) (Gr := Gr) (n := n) (w := w) (d := d) hg ho htx hs8 hd h125 t8.1 h207 t8.2.1 hj.2
  rw [← ep9] at MZ bZ
  have bZ1 := bZ.1
  obtain ⟨T9, eT9⟩ : ∃ T9, T9 = zi (zi (zi (zi Z 73 19 (nI (dp + 1))) 87 dp 12) 88 dp (nI j1)) 73 26 (nI (dp + 1)) := ⟨_, rfl⟩
  have M9 : MC b t p9 (j8 + 1) (dp + 1) 0 N8 T9 := by rw [eT9]; exact MC_x (MC_o (MC_o (MC_dp MZ) (by omega)) (by omega)) (by omega)
  have t9c : ∀ c a, c ≠ 73 → c ≠ 87 → c ≠ 88 → T9.1 c a = Z.1 c a := fun c a h1 h2 h3 => by rw [eT9, zi_c h1, zi_c h3, zi_c h2, zi_c h1]
  have t9k : ∀ a, a ≠ 19 → a ≠ 26 → T9.1 73 a = Z.1 73 a := fun a h1 h2 => by rw [eT9, zi_k h2, zi_c (by decide), zi_c (by decide), zi_k h1]
  have t987 : T9.1 87 dp = 12 := by rw [eT9, zi_c (by decide), zi_c (by decide)]; exact zi_v
  have t988 : T9.1 88 dp = nI j1 := by rw [eT9, zi_c (by decide)]; exact zi_v
  have t926 : T9.1 73 26 = nI (dp + 1) := by rw [eT9]; exact zi_v
  have pkZ9 : ∀ a, PK b t Z T9 a dp := fun a => by rw [eT9]; exact PK_tr (PK_tr (PK_tr (PK_zi (by omega)) (PK_zi (by omega))) (PK_zi (by omega))) (PK_zi (by omega))
  have pk89 : ∀ a, a ≤ j1 → PK b t T8 T9 a dp := fun a ha => PK_tr (pkZ a ha) (pkZ9 a)
  have o9 : ∀ a, a < j8 → T9.1 78 a = T8.1 78 a ∧ T9.1 79 a = T8.1 79 a ∧ (a ≠ j1 → T9.1 80 a = T8.1 80 a) ∧ T9.1 81 a = T8.1 81 a ∧ T9.2 82 a = T8.2 82 a ∧ T9.1 89 a = T8.1 89 a := fun a ha => by
    have y := oZ a ha
    refine ⟨(t9c _ _ (by decide) (by decide) (by decide)).trans y.1, (t9c _ _ (by decide) (by decide) (by decide)).trans y.2.1, fun hn => (t9c _ _ (by decide) (by decide) (by decide)).trans (y.2.2.1 hn), (t9c _ _ (by decide) (by decide) (by decide)).trans y.2.2.2.1, ?_, (t9c _ _ (by decide) (by decide) (by decide)).trans y.2.2.2.2.2⟩
    rw [eT9]
    exact y.2.2.2.2.1
  have r9 : T9.1 80 j1 = nI j8 ∧ T9.1 78 j8 = 36 ∧ T9.1 79 j8 = nI j1 ∧ T9.1 88 dp = nI j1 := ⟨(t9c _ _ (by decide) (by decide) (by decide)).trans rZ.1, (t9c _ _ (by decide) (by decide) (by decide)).trans rZ.2.1, (t9c _ _ (by decide) (by decide) (by decide)).trans rZ.2.2.1, t988⟩
  refine ⟨T7, T8, T9, j1, j8, N8, k8, run, px8, ⟨⟨⟨M9, t926, (t9k 30 (by decide) (by decide)).trans z3.2.1, (t9k 29 (by decide) (by decide)).trans z3.2.2⟩, gp_wb hnp9.1, ⟨by omega, bZ.2⟩⟩, ?_⟩, fun Y ky => px_elif hg ho htx hs8 hd h125 hnp9.2.2 MZ.1 h206 (MC_19 MZ) z3.1 kz (by rw [← eT9]; exact ky), hj, gx, g8, rT, pk7, pk8, pk89, r9, o9, pk78⟩
  obtain ⟨hc1, hc2, hc3⟩ := hc
  refine ⟨by omega, fun a ha => ?_, ?_⟩
  · by_cases z : a = 0
    · subst z
      refine ⟨t987, j1, j8, t988, by omega, (o9 j1 (by omega)).1.trans rT.2.2, r9.1, by omega, by omega, r9.2.1⟩
    · obtain ⟨x1, s, e, x2, x3, x4, x5, x6, x7, x8⟩ := hc2 (a - 1) (by omega)
      have y := (pk89 j (by omega)).2.2.1 (dp - 1 - (a - 1)) (by omega)
      rw [show dp + 1 - 1 - a = dp - 1 - (a - 1) by omega]
      exact ⟨y.1.trans x1, s, e, y.2.trans x2, by omega, (o9 s (by omega)).1.trans x4, ((o9 s (by omega)).2.2.1 (by omega)).trans x5, x6, by omega, (o9 e (by omega)).1.trans x8⟩
  · rcases hc3 with y | y
    · left; omega
    · by_cases z : c = dp
      · left; omega
      · right
        rw [show dp + 1 - 1 - (c + 1) = dp - 1 - c by omega, ((pk89 j (by omega)).2.2.1 (dp - 1 - c) (by omega)).1]
        exact y
/-- } else if .. -/
theorem it_elif (hg : ip_gk (lg_tbl, vwCl, Gr)) (ho : ip_old (lg_tbl, vwCl, Gr)) (htx : ∀ k, k < t → tx (b k)) {S8 SF S11 S12 : zS} {p2 i1 p8 i8 vw8 D8 c p9 p12 i12 D12 vw12 : Nat} (hd : dp < 30) (h125 : tk b t p8 = 125) (h207 : tk b t (np b t p8) = 207) (ep9 : p9 = np b t (np b t p8)) (h206 : tk b t p9 = 206) (hM : IM l Gr n w d b t S8 T p i p2 i1 p8 i8 j dp vw vw8 iw D8 c)
    (hB : IOK l Gr n w d b t S11 S12 p9 (i8 + 1) D8 vw8 (dp + 1) p12 i12 D12 vw12) (skF : SK S8 SF i8 D8) (sk12 : SK S12 SF i12 D12) (rS : SF.1 4 i = 1 ∧ SF.1 6 i = nI p ∧ SF.1 4 i1 = 14 ∧ SF.1 6 i1 = nI p2 ∧ SF.1 4 i8 = 15 ∧ SF.1 5 i8 = nI i1 ∧ SF.1 4 i12 = 16 ∧ SF.1 5 i12 = nI i1 ∧ SF.1 6 i12 = nI p) : IT l Gr n w d b t SF T p i p12 (i12 + 1) j dp vw vw12 iw D12 c := by
  obtain ⟨T7, T8, T9, j1, j8, N8, k8, run, px8, hI9, px9, hj, gx, g8, rT, pk7, pk8, pk89, r9, o9, pk78⟩ := im_elif (l := l) (Gr := Gr) (n := n) (w := w) (d := d) hg ho htx hd h125 h207 ep9 h206 hM
  obtain ⟨TA, V, qA, jA, NA, runA, pxA, hsA, pkA, gA⟩ := hB.2.2.2.2.2 T9 _ _ iw (c + 1) hI9
  have gb := gT_bnd gA
  have bA := hsA.2.2
  have bA1 := bA.1
  have hqA := MC_p2 hsA.1.1
  have ht := MC_t hsA.1.1
  have v88 : V.1 88 dp = nI j1 := (pkA.2.2.1 dp (by omega)).2.trans r9.2.2.2
  have v80 : V.1 80 j1 = nI j8 := (pkA.1 j1 (Nat.zero_le _) (by omega)).2.2.1.trans r9.1
  have cs : cst V (dp + 1) = j1 := by unfold cst; rw [Nat.add_sub_cancel, v88, nI_clamp (by omega)]
  have ce : cel V (dp + 1) = j8 := by unfold cel; rw [cs, v80, nI_clamp (by omega)]
  obtain ⟨Y, eY⟩ : ∃ Y, Y = eI (pop V (dp + 1)) j1 j8 jA := ⟨_, rfl⟩
  have em : mEi (c + 1) V jA (dp + 1) = mEi c Y (jA + 2) dp := by
    show mEi c (eI (pop V (dp + 1)) (cst V (dp + 1)) (cel V (dp + 1)) jA) (jA + 2) (dp + 1 - 1) = _
    rw [cs, ce, eY, Nat.add_sub_cancel]
  have e8 : ¬ j8 = 0 := by omega
  have pc : ∀ c a, c ≠ 73 → (pop V (dp + 1)).1 c a = V.1 c a := fun c a hc => by rw [pop, zi_c hc, zi_c hc]
  have MY : MC b t qA (jA + 2) dp 0 NA Y := by
    rw [eY]
    have := MC_dp (d' := dp + 1 - 1) (MC_x (k := 26) (v := nI (dp + 1 - 1)) hsA.1.1 (by omega))
    rw [Nat.add_sub_cancel] at this
    exact eI_MC this
  have Yk : ∀ a, a ≠ 13 → a ≠ 19 → a ≠ 26 → Y.1 73 a = V.1 73 a := fun a h1 h2 h3 => by rw [eY, eI_k h1, pop, zi_k h2, zi_k h3]
  have Y26 : Y.1 73 26 = nI dp := by rw [eY, eI_k (by decide), pop, zi_k (by decide), Nat.add_sub_cancel]; exact zi_v
  have oY : ∀ a, a < jA → Y.1 78 a = V.1 78 a ∧ Y.1 79 a = V.1 79 a ∧ (a ≠ j8 → Y.1 80 a = V.1 80 a) ∧ Y.1 81 a = V.1 81 a ∧ Y.2 82 a = V.2 82 a ∧ Y.1 89 a = V.1 89 a := fun a ha => by
    have x := eI_o (T := pop V (dp + 1)) (s := j1) (e := j8) (j := jA) ha
    rw [← eY, if_neg e8, pc 78 a (by decide), pc 79 a (by decide), pc 80 a (by decide), pc 81 a (by decide)] at x
    refine ⟨x.1, x.2.1, x.2.2.1, x.2.2.2, by rw [eY]; rfl, by rw [eY, eI_c (by decide), pc _ _ (by decide)]⟩
  have rY := eI_r (T := pop V (dp + 1)) (s := j1) (e := j8) (j := jA) (by omega) (by omega)
  rw [← eY, if_neg e8] at rY
  have pkVY : PK b t V Y j dp := by
    rw [eY]
    exact PK_tr (PK_tr (PK_zi (by omega)) (PK_zi (by omega))) (eI_PK (by omega) (by rw [if_neg e8]; omega))
  have pk9Y : PK b t T9 Y j dp := PK_tr (PK_le pkA (by omega) (by omega)) pkVY
  have pk8Y : PK b t T8 Y j dp := PK_tr (pk89 j (by omega)) pk9Y
  have y80 : Y.1 80 j1 = nI j8 := ((oY j1 (by omega)).2.2.1 (by omega)).trans v80
  have y8A : ¬ Y.1 80 j1 = nI jA := fun y => by
    have := (nI_eq (a := j8) (b := jA) (by omega) (by omega)).mp (y80.symm.trans y)
    omega
  have a8 := pkA.1 j8 (Nat.zero_le _) (by omega)
  refine ⟨T7, Y, qA, jA + 2, NA, run, PX_tr px8 (PX_tr (px9 TA (runA d (Nat.le_refl _))) (by rw [← em]; exact pxA)), ⟨⟨MY, Y26, (Yk 30 (by decide) (by decide) (by decide)).trans hsA.1.2.2.1, (Yk 29 (by decide) (by decide) (by decide)).trans hsA.1.2.2.2⟩, hsA.2.1, ⟨by omega, by omega, bA.2.2⟩⟩, PK_tr pk8 pk8Y, if_gT (by omega) skF hB.2.2.2.1 rS (fun v p x => pk8Y.2.2.2.2.2.2 v p x) (fun a ha => ?_) gx g8 rT (k3 := 1) (j3 := jA) ?_ ⟨rY.2.1, rY.2.2.1, rY.2.2.2⟩ (Or.inr ⟨y80, y8A, (oY j8 (by omega)).1.trans (a8.1.trans r9.2.1), (oY j8 (by omega)).2.1.trans (a8.2.1.trans r9.2.2.1), rY.1⟩)⟩
  · have x := oY a (by omega)
    have z := pkA.1 a (Nat.zero_le _) (by omega)
    have z2 := pkA.2.1 a (by omega)
    have y := o9 a ha
    exact ⟨x.1.trans (z.1.trans y.1), x.2.1.trans (z.2.1.trans y.2.1), fun hn => (x.2.2.1 (by omega)).trans (z.2.2.1.trans (y.2.2.1 hn)), x.2.2.2.1.trans (z.2.2.2.1.trans y.2.2.2.1), x.2.2.2.2.1.trans (z.2.2.2.2.trans y.2.2.2.2.1), x.2.2.2.2.2.trans (z2.trans y.2.2.2.2.2)⟩
  · rw [if_neg (fun y => y8A y.2)]
    exact ⟨i8 + 1, j8 + 1, p9, vw8, ⟨rfl, rfl, rfl⟩, gT_cong pkVY.2.2.2.2.2.2 (Nat.le_refl _) sk12.2.1 gA (fun a q1 q2 => sk12.1 a (Nat.zero_le _) q2) ⟨fun a q1 q2 => ⟨(oY a q2).1, (oY a q2).2.1, (oY a q2).2.2.1 (by omega), (oY a q2).2.2.2.1, (oY a q2).2.2.2.2.1⟩, fun a q1 q2 => (oY a q2).2.2.2.2.2⟩⟩
end IFU
