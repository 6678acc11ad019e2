/-! readIf of both: behind its head -/
/-- the first BLOCK is read: the reference stands at its } -/
def IM (l : Launch) (Gr : zG) (n w d : Nat) (b : Nat → Int32) (t : Nat) (S8 T : zS) (p i p2 i1 p8 i8 j dp vw vw8 iw D8 c : Nat) : Prop :=
  ∃ T7 T8 q8 j1 j8 N8 k8, (∀ x, d ≤ x → zMv l Gr (zc n w) 168 M_Mo_ifStatement (x + 12) [.ref 105, .int (nI p)] T (fun A => A = T7)) ∧ PX l Gr n w d T7 T8 ∧ HS b t q8 j8 (dp + 1) N8 vw8 iw p8 T8 ∧ (T8.1 87 dp = 1 ∧ T8.1 88 dp = nI j1 ∧ T8.1 80 j1 = 0) ∧ (j < j1 ∧ j1 < j8) ∧ gX w S8 T8 (nid b t T8) p2 (i + 1) i1 (j + 1) j1 ∧ gL (gT w (dp + 1) S8 T8 (nid b t T8) D8) k8 vw vw8 (i1 + 1) i8 (j1 + 1) j8 ∧ (T8.1 78 j = 20 ∧ T8.1 81 j = nI p ∧ T8.1 78 j1 = 35) ∧ CHN c T8 j dp ∧ PK b t T T7 j dp ∧ PK b t T T8 j dp ∧ PK b t T7 T8 0 0
section IFT
variable {l : Launch} {Gr : zG} {n w : Nat} {d : Nat} {b : Nat → Int32} {t p i ws dp p' i' q j m N X u k D D' vw iw s e : Nat} {S S' S'' T T' T'' : zS}
/-- a BLOCK doesn't open, at any depth -/
theorem ob_F (hg : ip_gk (lg_tbl, vwCl, Gr)) (htx : ∀ k, k < t → tx (b k)) {x1 x2 : Int32} (h : MC b t q j dp m N T) (hgq : gp b t q = p) (hdp : dp ≤ 30) (hk : ¬ (tk b t p = 123 ∧ dp < 30)) (h26 : T.1 73 26 = nI k) (hkk : k < 70) : ∃ Y, (∀ x, zMv l Gr (zc n w) 168 M_Mo_openBlock (x + 3) [.ref 105, .int x1, .int x2] T (fun A => A = Y)) ∧ Y.1 73 7 = (if tk b t p = 123 then 3 else 1) ∧ Y.1 73 8 = nI p ∧ PK b t T Y j k := by
  have h1 := MC_p h hgq
  by_cases z : tk b t p = 123
  · have e30 : dp = 30 := by
      by_cases y : dp < 30
      · exact absurd ⟨z, y⟩ hk
      · omega
    subst e30
    rw [if_pos z]
    obtain ⟨Z, eZ⟩ : ∃ Z, Z = zi (mF (zi T 73 6 (nI p)) 3 (nI p)) 73 19 (nI 31) := ⟨_, rfl⟩
    have g26 : Z.1 73 26 = nI k := by rw [eZ, zi_k (by decide)]; unfold mF; rw [zi_k (by decide), zi_k (by decide), zi_k (by decide)]; exact h26
    have g7 : Z.1 73 7 = 3 := by rw [eZ, zi_k (by decide)]; exact mF_f.1
    have g8 : Z.1 73 8 = nI p := by rw [eZ, zi_k (by decide)]; exact mF_f.2
    refine ⟨zi (zi (zi (zi Z 73 6 (Z.1 73 6 + 1)) 87 k x1) 88 k x2) 73 26 (nI (k + 1)), fun x => ?_, by rw [zi_k (by decide), zi_c (by decide), zi_c (by decide), zi_k (by decide)]; exact g7, by rw [zi_k (by decide), zi_c (by decide), zi_c (by decide), zi_k (by decide)]; exact g8, ?_⟩
    · refine e_Mo_openBlock (b_Mo_openBlock_0 hg (wm_gap hg h.1) (fun A e => ?_))
      rw [e, hgq]
      refine b_Mo_openBlock_4 hg (wm_isSign hg h1.1) (fun v A hv => ?_)
      rw [hv.1, hv.2, if_pos ((tk_sg htx (MC_p2 h1) (by decide) (by decide) (by decide)).mpr z)]
      refine b_Mo_openBlock_10 (fun _ => b_Mo_openBlock_23 hg (wm_deeperF hg (MC_19 h1) (MC_f h1)) (fun A e => ?_)) (fun z => absurd z (by decide))
      rw [MC_6 h1] at e
      rw [e, ← eZ]
      refine b_Mo_openBlock_31 (by rw [g26]; exact vp_in_nI hkk (by omega)) ⟨rfl, ?_⟩
      rw [g26, nI_clamp (by omega), nI_1]
    · rw [eZ]
      exact PK_tr (PK_tr (PK_tr (PK_tr (PK_tr (PK_tr (PK_zi (by omega)) PK_mF) (PK_zi (by omega))) (PK_zi (by omega))) (PK_zi (by omega))) (PK_zi (by omega))) (PK_zi (by omega))
  · rw [if_neg z]
    refine ⟨mF (zi T 73 6 (nI p)) 1 (nI p), fun x => ?_, mF_f.1, mF_f.2, PK_tr (PK_zi (by omega)) PK_mF⟩
    refine e_Mo_openBlock (b_Mo_openBlock_0 hg (wm_gap hg h.1) (fun A e => ?_))
    rw [e, hgq]
    refine b_Mo_openBlock_4 hg (wm_isSign hg h1.1) (fun v A hv => ?_)
    rw [hv.1, hv.2, if_neg (fun y => z ((tk_sg htx (MC_p2 h1) (by decide) (by decide) (by decide)).mp y))]
    refine b_Mo_openBlock_10 (fun z => absurd rfl z) (fun _ => b_Mo_openBlock_13 hg (wm_fail (MC_f h1)) (fun A e => b_Mo_openBlock_22 ⟨rfl, ?_⟩))
    rw [e, MC_6 h1]
/-- the head and the first { -/
theorem im_open (hg : ip_gk (lg_tbl, vwCl, Gr)) (htx : ∀ k, k < t → tx (b k)) {S6 : zS} {p2 p4 i1 c : Nat} (hd : dp < 30) (h123 : tk b t p4 = 123) (hF : IFP l Gr n w d b t S6 p i p2 p4 i1 dp vw) (hI : HI b t j dp N vw iw p c T) : ∃ T6 T7 j1 N6, (∀ x, d ≤ x → zMv l Gr (zc n w) 168 M_Mo_ifStatement (x + 12) [.ref 105, .int (nI p)] T (fun A => A = T7)) ∧ HS b t (p4 + 1) (j1 + 1) (dp + 1) N6 vw iw (np b t p4) T7 ∧ (T7.1 87 dp = 1 ∧ T7.1 88 dp = nI j1) ∧ j < j1 ∧ PK b t T6 T7 (j1 + 1) dp ∧ TB T7 (dp + 1) ∧ MK b t T T6 j 0 ∧ gX w S6 T6 (nid b t T6) p2 (i + 1) i1 (j + 1) j1 ∧ (T6.1 78 j = 20 ∧ T6.1 81 j = nI p ∧ T6.1 78 j1 = 35 ∧ T6.1 80 j1 = 0) := by
  obtain ⟨T6, q6, j1, N6, M6, g6, mk6, b6, hj, gx, rT, pre⟩ := hF T j N iw hI.1
  have p36 := P3_MK mk6
  have b61 := b6.1
  obtain ⟨T7, ko, hs7, t87, t88, pk67, tb7⟩ := ob_ok (l := l) (Gr := Gr) (n := n) (w := w) (s := j1) (K := 1) hg htx (by omega) M6 g6 h123 hd (p36.1.trans hI.1.1.2.1) (p36.2.2.trans hI.1.1.2.2.1) (p36.2.1.trans hI.1.1.2.2.2) ⟨by omega, b6.2⟩
  exact ⟨T6, T7, j1, N6, fun x hx => e_Mo_ifStatement (pre x hx _ (b_Mo_ifStatement_99 hg (ko (x + 8)) (fun A eA => b_Mo_ifStatement_102 ⟨rfl, eA⟩))), hs7, ⟨t87, t88⟩, hj, pk67, tb7, mk6, gx, rT⟩
theorem im_of (hg : ip_gk (lg_tbl, vwCl, Gr)) (htx : ∀ k, k < t → tx (b k)) {S6 S8 : zS} {p2 p4 i1 c Dn p8 i8 D8 vw8 : Nat} (hd : dp < 30) (h123 : tk b t p4 = 123) (hF : IFP l Gr n w d b t S6 p i p2 p4 i1 dp vw) (hB : BOK l Gr n w d b t (wS b t (np b t p4) S6) S8 (np b t p4) (i1 + 1) Dn vw (dp + 1) p8 i8 D8 vw8) (hI : HI b t j dp N vw iw p c T) : IM l Gr n w d b t S8 T p i p2 i1 p8 i8 j dp vw vw8 iw D8 c := by
  obtain ⟨T6, T7, j1, N6, run, hs7, t8, hj, pk67, tb7, mk6, gx, rT⟩ := im_open (l := l) (Gr := Gr) (n := n) (w := w) (d := d) hg htx hd h123 hF hI
  obtain ⟨T8, q8, j8, N8, k8, px8, hs8, pk8, g8⟩ := hB.2.2.2.2.2 T7 _ _ _ iw hs7 tb7
  have gb := gL_b g8
  have pk68 : PK b t T6 T8 (j1 + 1) dp := PK_tr pk67 (PK_le pk8 (Nat.le_refl _) (by omega))
  have sk68 : SK S6 S8 (i1 + 1) Dn := SK_tr SK_wS hB.2.1
  have pkT8 : PK b t T T8 j dp := PK_tr (PK_MK mk6) (PK_le pk68 (by omega) (Nat.le_refl _))
  have r0 := pk68.1 j (Nat.zero_le _) (by omega)
  have r1 := pk68.1 j1 (Nat.zero_le _) (by omega)
  exact ⟨T7, T8, q8, j1, j8, N8, k8, run, px8, hs8, ⟨(pk8.2.2.1 dp (by omega)).1.trans t8.1, (pk8.2.2.1 dp (by omega)).2.trans t8.2, r1.2.2.1.trans rT.2.2.2⟩, ⟨hj, by omega⟩, gX_cong pk68.2.2.2.2.2.2 gx (fun a q1 q2 => sk68.1 a (Nat.zero_le _) (by omega)) (fun a q1 q2 => pk68.1 a (Nat.zero_le _) (by omega)), g8, ⟨r0.1.trans rT.1, r0.2.2.2.1.trans rT.2.1, r1.1.trans rT.2.2.1⟩, CHN_k hI.2 (fun a ha => pkT8.2.2.1 a ha) (fun a ha => ⟨(pkT8.1 a (Nat.zero_le _) ha).1, (pkT8.1 a (Nat.zero_le _) ha).2.2.1⟩), PK_tr (PK_MK mk6) (PK_le pk67 (by omega) (Nat.le_refl _)), pkT8, PK_0 pk8⟩
/-- the two codes of an if, put together -/
theorem if_gT {S8 SF T8 Y : zS} {p2 i1 i8 i3 j1 j8 j3 k8 k3 D8 DX vw8 vwX : Nat} (hdp : dp ≤ 30) (skF : SK S8 SF i8 D8) (hDD : D8 ≤ DX) (rS : SF.1 4 i = 1 ∧ SF.1 6 i = nI p ∧ SF.1 4 i1 = 14 ∧ SF.1 6 i1 = nI p2 ∧ SF.1 4 i8 = 15 ∧ SF.1 5 i8 = nI i1 ∧ SF.1 4 i3 = 16 ∧ SF.1 5 i3 = nI i1 ∧ SF.1 6 i3 = nI p) (ni : ∀ v p, nid b t T8 v p → nid b t Y v p)
    (hr : ∀ a, a < j8 → Y.1 78 a = T8.1 78 a ∧ Y.1 79 a = T8.1 79 a ∧ (a ≠ j1 → Y.1 80 a = T8.1 80 a) ∧ Y.1 81 a = T8.1 81 a ∧ Y.2 82 a = T8.2 82 a ∧ Y.1 89 a = T8.1 89 a) (gx : gX w S8 T8 (nid b t T8) p2 (i + 1) i1 (j + 1) j1) (g8 : gL (gT w (dp + 1) S8 T8 (nid b t T8) D8) k8 vw vw8 (i1 + 1) i8 (j1 + 1) j8) (rT : T8.1 78 j = 20 ∧ T8.1 81 j = nI p ∧ T8.1 78 j1 = 35)
    (g3 : gL (gT w (dp + 1) SF Y (nid b t Y) DX) k3 vw8 vwX (i8 + 1) i3 (if k3 = 0 ∧ Y.1 80 j1 = nI j3 then j8 else j8 + 1) j3) (rY : Y.1 78 j3 = 37 ∧ Y.1 79 j3 = nI j1 ∧ Y.1 78 (j3 + 1) = 21) (hc : (k3 = 0 ∧ Y.1 80 j1 = nI j3) ∨ (Y.1 80 j1 = nI j8 ∧ ¬ Y.1 80 j1 = nI j3 ∧ Y.1 78 j8 = 36 ∧ Y.1 79 j8 = nI j1 ∧ Y.1 80 j8 = nI j3)) : gT w dp SF Y (nid b t Y) DX vw vwX p i (i3 + 1) j (j3 + 2) := by
  have bx := gX_bnd gx
  have bl := gL_b g8
  have r0 := hr j (by omega)
  have r1 := hr j1 (by omega)
  exact gT_if hdp ⟨p2, i1, j1, k8, i8, j8, k3, i3, j3, vw8, gX_cong ni gx (fun a q1 q2 => skF.1 a (Nat.zero_le _) (by omega)) (fun a q1 q2 => ⟨(hr a (by omega)).1, (hr a (by omega)).2.1, (hr a (by omega)).2.2.1 (by omega), (hr a (by omega)).2.2.2.1, (hr a (by omega)).2.2.2.2.1⟩), gL_gT ni hDD skF.2.1 g8 (fun a q1 q2 => skF.1 a (Nat.zero_le _) (by omega)) ⟨fun a q1 q2 => ⟨(hr a (by omega)).1, (hr a (by omega)).2.1, (hr a (by omega)).2.2.1 (by omega), (hr a (by omega)).2.2.2.1, (hr a (by omega)).2.2.2.2.1⟩, fun a q1 q2 => (hr a (by omega)).2.2.2.2.2⟩, g3, rfl, rfl, rS.1, rS.2.1, rS.2.2.1, rS.2.2.2.1, rS.2.2.2.2.1, rS.2.2.2.2.2.1, rS.2.2.2.2.2.2.1, rS.2.2.2.2.2.2.2.1, rS.2.2.2.2.2.2.2.2, r0.1.trans rT.1, r0.2.2.2.1.trans rT.2.1, r1.1.trans rT.2.2, rY.1, rY.2.1, rY.2.2, hc⟩
/-- no else -/
theorem it_no (hg : ip_gk (lg_tbl, vwCl, Gr)) (ho : ip_old (lg_tbl, vwCl, Gr)) (htx : ∀ k, k < t → tx (b k)) {S8 SF : zS} {p2 i1 p8 i8 vw8 D8 c : Nat} (hd : dp < 30) (h125 : tk b t p8 = 125) (n207 : ¬ tk b t (np b t p8) = 207) (hM : IM l Gr n w d b t S8 T p i p2 i1 p8 i8 j dp vw vw8 iw D8 c) (skF : SK S8 SF i8 D8) (rS : SF.1 4 i = 1 ∧ SF.1 6 i = nI p ∧ SF.1 4 i1 = 14 ∧ SF.1 6 i1 = nI p2 ∧ SF.1 4 i8 = 15 ∧ SF.1 5 i8 = nI i1 ∧ SF.1 4 (i8 + 1) = 16 ∧ SF.1 5 (i8 + 1) = nI i1 ∧ SF.1 6 (i8 + 1) = nI p) : IT l Gr n w d b t SF T p i (np b t p8) (i8 + 1 + 1) j dp vw vw8 iw D8 c := by
  obtain ⟨T7, T8, q8, j1, j8, N8, k8, run, px8, hs8, t8, hj, gx, g8, rT, hc, pk7, pk8, pk78⟩ := hM
  have b1 := hs8.2.2.1
  have hq8 := MC_p2 hs8.1.1
  have ht := MC_t hs8.1.1
  have hcd := hc.1
  obtain ⟨Y, q', pxY, hsY, pkY, rY, oY⟩ := cb_end (l := l) (Gr := Gr) (n := n) (w := w) (d := d) (e := 0) (j0 := j) hg ho htx hs8 hd h125 (Or.inr ⟨t8.1, n207⟩) t8.2.1 hj.2 t8.2.2 (by omega) hc ⟨by omega, Or.inl rfl⟩ (by omega)
  rw [if_pos rfl] at rY
  have pkj := pkY j (by omega) (Or.inl rfl)
  refine ⟨T7, Y, q', j8 + 2, N8, run, PX_tr px8 pxY, hsY, PK_tr pk8 pkj, if_gT (by omega) skF (Nat.le_refl _) rS pkj.2.2.2.2.2.2 (fun a ha => ?_) gx g8 rT (k3 := 0) (j3 := j8) ⟨rfl, ?_, rfl⟩ ⟨rY.2.1, rY.2.2.1, rY.2.2.2⟩ (Or.inl ⟨rfl, rY.1⟩)⟩
  · have x := oY a ha
    rw [if_pos rfl] at x
    exact x
  · rw [if_pos ⟨rfl, rY.1⟩]
end IFT
