/-! how operands close on the reference's side -/
section FC
variable {l : Launch} {Gr : zG} {n w : Nat} {d : Nat} {b : Nat → Int32} {t p i ws dp p' i' q j m N X u : Nat} {S S' T T' : zS}
theorem fcl (hg : ip_gk (lg_tbl, vwCl, Gr)) (htx : ∀ k, k < t → tx (b k)) (h : HF b t q j dp m N X u p T) (hdp : dp < 30) {Y Z : zS} {x2 : Int32} {q1 j1 d1 m1 N1 p1 j' jz N' : Nat} (rx : RX l Gr n w d T 1 T' 0) (hM : MC b t q1 j1 d1 m1 N1 T') (hg1 : gp b t q1 = p1) (ho : okn (tk b t p1) = 0) (h63 : ¬ tk b t p1 = 63)
    (h51 : ∀ Q, zW l Gr (zc n w) 168 M_Mo_closes (d + 9) 51 [some (.ref 105), some (.int 0), some (.int x2), none, none, none, none] [] Y Q → zW l Gr (zc n w) 168 M_Mo_closes (d + 9) 0 [some (.ref 105), some (.int 0), none, none, none, none, none] [] (zi T' 73 6 (nI p1)) Q)
    (hY : MC b t p1 j' (dp + 1) (m + 1) N' Y) (hcl : (tk b t p1 = 41 ∧ (Y.1 83 m = 5 ∨ Y.1 83 m = 7 ∨ Y.1 83 m = 8 ∨ (Y.1 83 m = 9 ∧ Y.1 86 m = 1))) ∨ (tk b t p1 = 93 ∧ Y.1 83 m = 6))
    (path : ∀ Q, zW l Gr (zc n w) 168 M_Mo_closes (d + 9) 515 [some (.ref 105), some (.int 0), none, none, none, none, none] [] Z Q → zW l Gr (zc n w) 168 M_Mo_closes (d + 9) 306 [some (.ref 105), some (.int 0), some (.int x2), some (.int (Y.1 83 m)), none, none, none] [] Y Q)
    (hZ : MC b t (p1 + 1) jz dp m N' Z) (hK : MK b t T Z j m) (hX : gX w S' Z (nid b t Z) p i i' j jz) (h25 : Z.1 73 25 = 0) (hb : bud b t X jz m N' (p1 + 1)) : FT l Gr n w d b t S' T p i (np b t p1) i' j dp m X u := by
  have hp1 := hY.1.2.2.2.1
  have ht := hY.1.2.2.2.2
  have hb1 := hb.1
  have hb2 := hb.2.1
  have hum := h.2.2.2.1
  have hud := h.2.2.2.2.1
  have et : te b t p1 = p1 + 1 ∧ p1 < t := by
    rcases hcl with ⟨z, -⟩ | ⟨z, -⟩
    · exact te_s htx hp1 (c := 41) (by decide) (by decide) (by decide) z
    · exact te_s htx hp1 (c := 93) (by decide) (by decide) (by decide) z
  obtain ⟨w1, w2⟩ := w83_of h hK
  refine fo_2 hg htx h rx hM hg1 ho h63 (fun Q k => h51 Q (cl_51 (d := d + 6) hg htx hY (by omega) (by omega) (fun z => ?_) (fun z => ?_) (fun _ => path Q (cl_sg (d := d + 6) hg hZ hum hud (by omega) (by omega) (by omega) w1 w2 k)) (fun _ _ z => absurd hcl z))) hZ hK hX h25 (by show gp b t (p1 + 1) = gp b t (te b t p1); rw [et.1]) hb
  · rcases hcl with ⟨y, -⟩ | ⟨y, -⟩ <;> (rw [z] at y; exact absurd y (by decide))
  · rcases hcl with ⟨y, -⟩ | ⟨y, -⟩ <;> (rw [z] at y; exact absurd y (by decide))
section PT
variable {Y : zS} {p1 j' N' : Nat} {Q : Option Value → zS → Prop} {x2 : Int32}
theorem pt_5 (hg : ip_gk (lg_tbl, vwCl, Gr)) (hY : MC b t p1 j' (dp + 1) (m + 1) N' Y) (hpt : p1 < t) (hdp : dp < 30) (hm : m + 1 ≤ 4100) (hj : j' < 12000) (k5 : Y.1 83 m = 5) (k : zW l Gr (zc n w) 168 M_Mo_closes (d + 9) 515 [some (.ref 105), some (.int 0), none, none, none, none, none] [] (mP (mTk Y p1 (dp + 1) (m + 1)) j' 15 0 0 (Y.1 85 m)) Q) : zW l Gr (zc n w) 168 M_Mo_closes (d + 9) 306 [some (.ref 105), some (.int 0), some (.int x2), some (.int (Y.1 83 m)), none, none, none] [] Y Q := by
  have hT := MC_mTk hY hpt
  refine cl_306 (d := d + 6) hg hY hpt (by omega) (by omega) (by omega) (by omega) (fun _ => ?_) (fun z => ?_) (fun z => ?_) (fun z => ?_) (fun z => ?_)
  · exact b_Mo_closes_355 hg (wm_put hT.2.2.1 hj) (fun v Y1 hv => by rw [hv.2]; exact b_Mo_closes_365 k)
  · rw [k5] at z; exact absurd z (by decide)
  · rw [k5] at z; exact absurd z (by decide)
  · rw [k5] at z; exact absurd z (by decide)
  · exact absurd k5 z
theorem pt_6 (hg : ip_gk (lg_tbl, vwCl, Gr)) (hY : MC b t p1 j' (dp + 1) (m + 1) N' Y) (hpt : p1 < t) (hdp : dp < 30) (hm : m + 1 ≤ 4100) (hj : j' < 12000) (k6 : Y.1 83 m = 6) (k : zW l Gr (zc n w) 168 M_Mo_closes (d + 9) 515 [some (.ref 105), some (.int 0), none, none, none, none, none] [] (mP (mTk Y p1 (dp + 1) (m + 1)) j' 7 (Y.1 84 m) 0 (Y.1 85 m)) Q) : zW l Gr (zc n w) 168 M_Mo_closes (d + 9) 306 [some (.ref 105), some (.int 0), some (.int x2), some (.int (Y.1 83 m)), none, none, none] [] Y Q := by
  have hT := MC_mTk hY hpt
  have e20 : (mTk Y p1 (dp + 1) (m + 1)).1 73 20 = nI m := hT.2.2.2.2.1
  have e84 : (mTk Y p1 (dp + 1) (m + 1)).1 84 (((mTk Y p1 (dp + 1) (m + 1)).1 73 20).toNatClampNeg) = Y.1 84 m := by rw [e20, nI_clamp (by omega), mTk_c (by decide)]
  refine cl_306 (d := d + 6) hg hY hpt (by omega) (by omega) (by omega) (by omega) (fun z => ?_) (fun _ => ?_) (fun z => ?_) (fun z => ?_) (fun _ z => ?_)
  · rw [k6] at z; exact absurd z (by decide)
  · refine b_Mo_closes_376 hg (by rw [e20]; exact vp_in_nI (by omega) (by omega)) (wm_put hT.2.2.1 hj) (fun v Y1 hv => ?_)
    rw [hv.2, e84]
    exact b_Mo_closes_394 k
  · rw [k6] at z; exact absurd z (by decide)
  · rw [k6] at z; exact absurd z (by decide)
  · exact absurd k6 z
theorem pt_89 (hg : ip_gk (lg_tbl, vwCl, Gr)) (hY : MC b t p1 j' (dp + 1) (m + 1) N' Y) (hpt : p1 < t) (hdp : dp < 30) (hm : m + 1 ≤ 4100) (hj : j' < 12000) {K : Int32} (k8 : (Y.1 83 m = 8 ∧ K = 10) ∨ (Y.1 83 m = 9 ∧ K = 11)) (k : zW l Gr (zc n w) 168 M_Mo_closes (d + 9) 515 [some (.ref 105), some (.int 0), none, none, none, none, none] [] (mP (mTk Y p1 (dp + 1) (m + 1)) j' K 0 0 (Y.1 85 m)) Q) : zW l Gr (zc n w) 168 M_Mo_closes (d + 9) 306 [some (.ref 105), some (.int 0), some (.int x2), some (.int (Y.1 83 m)), none, none, none] [] Y Q := by
  have hT := MC_mTk hY hpt
  have go : zW l Gr (zc n w) 168 M_Mo_closes (d + 9) 506 [some (.ref 105), some (.int 0), none, none, none, some (.int (Y.1 85 m)), none] [.int K, .ref 105] (mTk Y p1 (dp + 1) (m + 1)) Q := b_Mo_closes_506 hg (wm_put hT.2.2.1 hj) (fun v Y1 hv => by rw [hv.2]; exact b_Mo_closes_513 k)
  refine cl_306 (d := d + 6) hg hY hpt (by omega) (by omega) (by omega) (by omega) (fun z => ?_) (fun z => ?_) (fun z => ?_) (fun z => ?_) (fun _ _ _ z => ?_)
  · rw [z] at k8; exact absurd k8 (by rintro (y | y) <;> exact absurd y.1 (by decide))
  · rw [z] at k8; exact absurd k8 (by rintro (y | y) <;> exact absurd y.1 (by decide))
  · rw [z] at k8; exact absurd k8 (by rintro (y | y) <;> exact absurd y.1 (by decide))
  · rcases k8 with y | y
    · rw [← y.2]; exact go
    · rw [y.1] at z; exact absurd z (by decide)
  · rcases k8 with y | y
    · exact absurd y.1 z
    · rw [← y.2]; exact go
/-- a call's end: c is where its CALLED stands -/
theorem pt_7 (hg : ip_gk (lg_tbl, vwCl, Gr)) (hY : MC b t p1 j' (dp + 1) (m + 1) N' Y) (hpt : p1 < t) (hdp : dp < 30) (hm : m + 1 ≤ 4100) {c cnt : Nat} (hj : j' + 1 < 12000) (hc : c < 12000) (k7 : Y.1 83 m = 7) (e84 : Y.1 84 m = nI c) (e86 : Y.1 86 m = nI cnt) (hx : x2 = 0) (k : zW l Gr (zc n w) 168 M_Mo_closes (d + 9) 515 [some (.ref 105), some (.int 0), none, none, none, none, none] [] (mP (mP (zi (mTk Y p1 (dp + 1) (m + 1)) 80 c (nI (cnt + 1))) j' 16 (nI c) 0 (nI (p1 + 1))) (j' + 1) 9 ((mP (zi (mTk Y p1 (dp + 1) (m + 1)) 80 c (nI (cnt + 1))) j' 16 (nI c) 0 (nI (p1 + 1))).1 79 c) 0 (Y.1 85 m)) Q) : zW l Gr (zc n w) 168 M_Mo_closes (d + 9) 306 [some (.ref 105), some (.int 0), some (.int x2), some (.int (Y.1 83 m)), none, none, none] [] Y Q := by
  have hT := MC_mTk hY hpt
  have e20 : (mTk Y p1 (dp + 1) (m + 1)).1 73 20 = nI m := hT.2.2.2.2.1
  have hin : vp_in ((mTk Y p1 (dp + 1) (m + 1)).1 73 20) 4100 := by rw [e20]; exact vp_in_nI (by omega) (by omega)
  have f84 : (mTk Y p1 (dp + 1) (m + 1)).1 84 (((mTk Y p1 (dp + 1) (m + 1)).1 73 20).toNatClampNeg) = nI c := by rw [e20, nI_clamp (by omega), mTk_c (by decide)]; exact e84
  have f86 : (mTk Y p1 (dp + 1) (m + 1)).1 86 (((mTk Y p1 (dp + 1) (m + 1)).1 73 20).toNatClampNeg) + 1 = nI (cnt + 1) := by rw [e20, nI_clamp (by omega), mTk_c (by decide), e86, nI_1]
  refine cl_306 (d := d + 6) hg hY hpt (by omega) (by omega) (by omega) (by omega) (fun z => ?_) (fun z => ?_) (fun _ => ?_) (fun z => ?_) (fun _ _ z => ?_)
  · rw [k7] at z; exact absurd z (by decide)
  · rw [k7] at z; exact absurd z (by decide)
  · refine b_Mo_closes_405 hin (fun _ => b_Mo_closes_426 hin (b_Mo_closes_437 (by rw [f84]; exact vp_in_nI (by omega) (by omega)) (fun z => absurd hx z) (fun _ => ?_))) (fun z => absurd hx z)
    rw [f84, f86, nI_clamp (by omega)]
    have hZ := MC_o (c := 80) (k := c) (v := nI (cnt + 1)) hT (by omega)
    have g20 : (zi (mTk Y p1 (dp + 1) (m + 1)) 80 c (nI (cnt + 1))).1 73 20 = nI m := hZ.2.2.2.2.1
    have g84 : (zi (mTk Y p1 (dp + 1) (m + 1)) 80 c (nI (cnt + 1))).1 84 (((zi (mTk Y p1 (dp + 1) (m + 1)) 80 c (nI (cnt + 1))).1 73 20).toNatClampNeg) = nI c := by rw [g20, nI_clamp (by omega), zi_c (by decide), mTk_c (by decide)]; exact e84
    refine b_Mo_closes_442 hg (by rw [g20]; exact vp_in_nI (by omega) (by omega)) (wm_put hZ.2.2.1 (by omega)) (fun v Y1 hv => ?_)
    rw [hv.2, g84, hZ.1.2.2.1]
    have hW := MC_mP (x1 := 16) (x2 := nI c) (x3 := 0) (x4 := nI (p1 + 1)) hZ
    have i20 : (mP (zi (mTk Y p1 (dp + 1) (m + 1)) 80 c (nI (cnt + 1))) j' 16 (nI c) 0 (nI (p1 + 1))).1 73 20 = nI m := hW.2.2.2.2.1
    have i84 : (mP (zi (mTk Y p1 (dp + 1) (m + 1)) 80 c (nI (cnt + 1))) j' 16 (nI c) 0 (nI (p1 + 1))).1 84 (((mP (zi (mTk Y p1 (dp + 1) (m + 1)) 80 c (nI (cnt + 1))) j' 16 (nI c) 0 (nI (p1 + 1))).1 73 20).toNatClampNeg) = nI c := by rw [i20, nI_clamp (by omega), mP_c (by decide), zi_c (by decide), mTk_c (by decide)]; exact e84
    refine b_Mo_closes_462 (b_Mo_closes_464 hg (by rw [i20]; exact vp_in_nI (by omega) (by omega)) (by rw [i84]; exact vp_in_nI (by omega) (by omega)) (wm_put hW.2.2.1 (by omega)) (fun v Y2 hv => ?_))
    rw [hv.2, i84, nI_clamp (by omega)]
    exact b_Mo_closes_487 k
  · rw [k7] at z; exact absurd z (by decide)
  · exact absurd k7 z
theorem pt_7f (hg : ip_gk (lg_tbl, vwCl, Gr)) (hY : MC b t p1 j' (dp + 1) (m + 1) N' Y) (hpt : p1 < t) (hdp : dp < 30) (hm : m + 1 ≤ 4100) {c : Nat} (hj : j' < 12000) (hc : c < 12000) (k7 : Y.1 83 m = 7) (e84 : Y.1 84 m = nI c) (hx : ¬ x2 = 0) (k : zW l Gr (zc n w) 168 M_Mo_closes (d + 9) 515 [some (.ref 105), some (.int 0), none, none, none, none, none] [] (mP (zi (mTk Y p1 (dp + 1) (m + 1)) 80 c 0) j' 9 ((zi (mTk Y p1 (dp + 1) (m + 1)) 80 c 0).1 79 c) 0 (Y.1 85 m)) Q) : zW l Gr (zc n w) 168 M_Mo_closes (d + 9) 306 [some (.ref 105), some (.int 0), some (.int x2), some (.int (Y.1 83 m)), none, none, none] [] Y Q := by
  have hT := MC_mTk hY hpt
  have e20 : (mTk Y p1 (dp + 1) (m + 1)).1 73 20 = nI m := hT.2.2.2.2.1
  have hin : vp_in ((mTk Y p1 (dp + 1) (m + 1)).1 73 20) 4100 := by rw [e20]; exact vp_in_nI (by omega) (by omega)
  have f84 : (mTk Y p1 (dp + 1) (m + 1)).1 84 (((mTk Y p1 (dp + 1) (m + 1)).1 73 20).toNatClampNeg) = nI c := by rw [e20, nI_clamp (by omega), mTk_c (by decide)]; exact e84
  refine cl_306 (d := d + 6) hg hY hpt (by omega) (by omega) (by omega) (by omega) (fun z => ?_) (fun z => ?_) (fun _ => ?_) (fun z => ?_) (fun _ _ z => ?_)
  · rw [k7] at z; exact absurd z (by decide)
  · rw [k7] at z; exact absurd z (by decide)
  · refine b_Mo_closes_405 hin (fun z => absurd z hx) (fun _ => b_Mo_closes_422 (b_Mo_closes_437 (by rw [f84]; exact vp_in_nI (by omega) (by omega)) (fun _ => ?_) (fun z => absurd z hx)))
    rw [f84, nI_clamp (by omega)]
    have hZ := MC_o (c := 80) (k := c) (v := 0) hT (by omega)
    have g20 : (zi (mTk Y p1 (dp + 1) (m + 1)) 80 c 0).1 73 20 = nI m := hZ.2.2.2.2.1
    have g84 : (zi (mTk Y p1 (dp + 1) (m + 1)) 80 c 0).1 84 (((zi (mTk Y p1 (dp + 1) (m + 1)) 80 c 0).1 73 20).toNatClampNeg) = nI c := by rw [g20, nI_clamp (by omega), zi_c (by decide), mTk_c (by decide)]; exact e84
    refine b_Mo_closes_464 hg (by rw [g20]; exact vp_in_nI (by omega) (by omega)) (by rw [g84]; exact vp_in_nI (by omega) (by omega)) (wm_put hZ.2.2.1 (by omega)) (fun v Y2 hv => ?_)
    rw [hv.2, g84, nI_clamp (by omega)]
    exact b_Mo_closes_487 k
  · rw [k7] at z; exact absurd z (by decide)
  · exact absurd k7 z
end PT
theorem mTk_MK {Y : zS} {p1 j0 m0 : Nat} {dd mm : Nat} : MK b t Y (mTk Y p1 dd mm) j0 m0 := MK_tr (MK_tr (MK_zi (by omega)) (MK_zi (by omega))) (MK_zi (by omega))
theorem mTk_25 {Y : zS} {p1 dd mm : Nat} : (mTk Y p1 dd mm).1 73 25 = Y.1 73 25 := by
  unfold mTk
  rw [zi_k (by decide), zi_k (by decide), zi_k (by decide)]
/-- ( EXPR ) -/
theorem ft_bra (hg : ip_gk (lg_tbl, vwCl, Gr)) (htx : ∀ k, k < t → tx (b k)) (h : HF b t q j dp m N X u p T) (hdp : dp < 30) {T0 : zS} {p1 i1 N0 : Nat} (hop : OP l Gr n w d b t T T0 1 (p + 1) (np b t p) j (j + 1) dp m N0 X 5 0 (nI p)) (r0 : T0.1 78 j = 1) (hE : E0 l Gr n w d b t S' T0 (np b t p) (i + 1) p1 i1 (j + 1) (dp + 1) (m + 1) X) (ho : okn (tk b t p1) = 0) (h63 : ¬ tk b t p1 = 63) (s0 : S'.1 4 i = 21) :
    (tk b t p1 = 41 → FT l Gr n w d b t S' T p i (np b t p1) i1 j dp m X u) ∧ (¬ tk b t p1 = 41 → ZF l Gr n w d b t T 1 (nI p1)) := by
  obtain ⟨T', Y, q', j1, d1, m1, j', N', rx, hM, hgp, h51, hY, hK, hb, hX, h25⟩ := hE
  obtain ⟨rx0, hM0, hgp0, mk0, hb0, e83, e84, e85, e86, hj0⟩ := hop
  have hb1 := hb.1
  have hb2 := hb.2.1
  have hp1 := hY.1.2.2.2.1
  have ht := hY.1.2.2.2.2
  have k := hK.2.1 m (by omega)
  have f83 : Y.1 83 m = 5 := k.1.trans e83
  have f85 : Y.1 85 m = nI p := k.2.2.1.trans e85
  have hbx := gX_bnd hX
  constructor
  · intro h41
    have hpt := (te_s htx hp1 (c := 41) (by decide) (by decide) (by decide) h41).2
    obtain ⟨Z, eZ⟩ : ∃ Z, Z = mP (mTk Y p1 (dp + 1) (m + 1)) j' 15 0 0 (Y.1 85 m) := ⟨_, rfl⟩
    have mkZ : MK b t Y Z j' (m + 1) := by rw [eZ]; exact MK_tr mTk_MK (MK_mP (Nat.le_refl _))
    have hZ : MC b t (p1 + 1) (j' + 1) dp m N' Z := by rw [eZ]; exact MC_mP (MC_mTk hY hpt)
    have r := mP_r (T := mTk Y p1 (dp + 1) (m + 1)) (j0 := j') (x1 := 15) (x2 := 0) (x3 := 0) (x4 := Y.1 85 m)
    rw [← eZ] at r
    refine fcl (x2 := 0) hg htx h hdp (RX_tr rx0 rx) hM hgp ho h63 h51 hY (Or.inl ⟨h41, Or.inl f83⟩) (fun Q k => pt_5 hg hY hpt hdp (by omega) (by omega) f83 (by rw [← eZ]; exact k)) hZ (MK_tr mk0 (MK_tr (MK_le hK (by omega) (by omega)) (MK_le mkZ (by omega) (by omega)))) (gX_bra ⟨np b t p, j', gX_cong mkZ.2.2.2.2.2 hX cgS_rfl (fun k q1 q2 => mkZ.1 k (Nat.zero_le _) q2), rfl, s0, ?_, r.1, r.2.2.2.trans f85⟩) (by rw [eZ, mP_k (by decide), mTk_25]; exact h25) ⟨by omega, by omega, nb_up hb.2.2 (by omega)⟩
    rw [(mkZ.1 j (Nat.zero_le _) (by omega)).1, (hK.1 j (Nat.zero_le _) (by omega)).1]
    exact r0
  · intro h41
    refine ze_bad hg htx (Y := Y) (RX_tr rx0 rx) hM hgp ho h63 (fun Q k => h51 Q (cl_51 (d := d + 6) hg htx hY (by omega) (by omega) (fun _ z => ?_) (fun _ z => ?_) (fun z => ?_) (fun _ _ _ => k))) (MK_tr (MK_le mk0 (Nat.zero_le _) (Nat.zero_le _)) (MK_le hK (Nat.zero_le _) (Nat.zero_le _)))
    · rw [show m + 1 - 1 = m by omega, f83] at z; exact absurd z (by decide)
    · rw [show m + 1 - 1 = m by omega, f83] at z; exact absurd z (by rintro (y | y) <;> exact absurd y.1 (by decide))
    · rw [show m + 1 - 1 = m by omega, f83] at z
      rcases z with z | z
      · exact absurd z.1 h41
      · exact absurd z.2 (by decide)
/-- NAME[EXPR] -/
theorem ft_idx (hg : ip_gk (lg_tbl, vwCl, Gr)) (htx : ∀ k, k < t → tx (b k)) (h : HF b t q j dp m N X u p T) (hdp : dp < 30) {T0 S2 : zS} {q0 p0 p1 i1 N0 v : Nat} (hop : OP l Gr n w d b t T T0 1 q0 p0 j (j + 2) dp m N0 X 6 (nI v) (nI p)) (hid : nid b t T0 v p) (r0 : T0.1 78 j = 1) (r1 : T0.1 78 (j + 1) = 6) (r2 : T0.1 79 (j + 1) = nI v) (r3 : T0.1 81 (j + 1) = nI p) (hE : E0 l Gr n w d b t S2 T0 p0 (i + 1) p1 i1 (j + 2) (dp + 1) (m + 1) X) (ho : okn (tk b t p1) = 0) (h63 : ¬ tk b t p1 = 63) :
    (tk b t p1 = 93 → cgS S2 S' (i + 1) i1 → S'.1 4 i = 25 → S'.1 6 i = nI p → S'.1 4 i1 = 26 → S'.1 5 i1 = nI i → S'.1 6 i1 = nI p0 → S'.1 4 (i1 + 1) = 27 → S'.1 5 (i1 + 1) = nI i → FT l Gr n w d b t S' T p i (np b t p1) (i1 + 2) j dp m X u) ∧ (¬ tk b t p1 = 93 → ZF l Gr n w d b t T 1 (nI p1)) := by
  obtain ⟨T', Y, q', j1, d1, m1, j', N', rx, hM, hgp, h51, hY, hK, hb, hX, h25⟩ := hE
  obtain ⟨rx0, hM0, hgp0, mk0, hb0, e83, e84, e85, e86, hj0⟩ := hop
  have hb1 := hb.1
  have hb2 := hb.2.1
  have hp1 := hY.1.2.2.2.1
  have ht := hY.1.2.2.2.2
  have k := hK.2.1 m (by omega)
  have f83 : Y.1 83 m = 6 := k.1.trans e83
  have f84 : Y.1 84 m = nI v := k.2.1.trans e84
  have f85 : Y.1 85 m = nI p := k.2.2.1.trans e85
  have hbx := gX_bnd hX
  constructor
  · intro h93 cs s1 s2 s3 s4 s5 s6 s7
    have hpt := (te_s htx hp1 (c := 93) (by decide) (by decide) (by decide) h93).2
    obtain ⟨Z, eZ⟩ : ∃ Z, Z = mP (mTk Y p1 (dp + 1) (m + 1)) j' 7 (Y.1 84 m) 0 (Y.1 85 m) := ⟨_, rfl⟩
    have mkZ : MK b t Y Z j' (m + 1) := by rw [eZ]; exact MK_tr mTk_MK (MK_mP (Nat.le_refl _))
    have hZ : MC b t (p1 + 1) (j' + 1) dp m N' Z := by rw [eZ]; exact MC_mP (MC_mTk hY hpt)
    have r := mP_r (T := mTk Y p1 (dp + 1) (m + 1)) (j0 := j') (x1 := 7) (x2 := Y.1 84 m) (x3 := 0) (x4 := Y.1 85 m)
    rw [← eZ] at r
    have t0 := mkZ.1 j (Nat.zero_le _) (by omega)
    have t1 := mkZ.1 (j + 1) (Nat.zero_le _) (by omega)
    have u0 := hK.1 j (Nat.zero_le _) (by omega)
    have u1 := hK.1 (j + 1) (Nat.zero_le _) (by omega)
    exact fcl (x2 := 0) hg htx h hdp (RX_tr rx0 rx) hM hgp ho h63 h51 hY (Or.inr ⟨h93, f83⟩) (fun Q k => pt_6 hg hY hpt hdp (by omega) (by omega) f83 (by rw [← eZ]; exact k)) hZ (MK_tr mk0 (MK_tr (MK_le hK (by omega) (by omega)) (MK_le mkZ (by omega) (by omega)))) (gX_elt ⟨v, p0, i1, j', nid_MK (nid_MK hid hK) mkZ, gX_cong mkZ.2.2.2.2.2 hX cs (fun k q1 q2 => mkZ.1 k (Nat.zero_le _) q2), rfl, rfl, s1, s2, s3, s4, s5, s6, s7, t0.1.trans (u0.1.trans r0), t1.1.trans (u1.1.trans r1), t1.2.1.trans (u1.2.1.trans r2), t1.2.2.2.1.trans (u1.2.2.2.1.trans r3), r.1, r.2.1.trans f84, r.2.2.2.trans f85⟩) (by rw [eZ, mP_k (by decide), mTk_25]; exact h25) ⟨by omega, by omega, nb_up hb.2.2 (by omega)⟩
  · intro h93
    refine ze_bad hg htx (Y := Y) (RX_tr rx0 rx) hM hgp ho h63 (fun Q k => h51 Q (cl_51 (d := d + 6) hg htx hY (by omega) (by omega) (fun _ z => ?_) (fun _ z => ?_) (fun z => ?_) (fun _ _ _ => k))) (MK_tr (MK_le mk0 (Nat.zero_le _) (Nat.zero_le _)) (MK_le hK (Nat.zero_le _) (Nat.zero_le _)))
    · rw [show m + 1 - 1 = m by omega, f83] at z; exact absurd z (by decide)
    · rw [show m + 1 - 1 = m by omega, f83] at z; exact absurd z (by rintro (y | y) <;> exact absurd y.1 (by decide))
    · rw [show m + 1 - 1 = m by omega, f83] at z
      rcases z with z | z
      · exact absurd z.2 (by rintro (y | y | y | y) <;> first | exact absurd y (by decide) | exact absurd y.1 (by decide))
      · exact absurd z.1 h93
end FC
