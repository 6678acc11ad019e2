/-! the class's SORTS: each instruction (gk.py) -/
section SK7
variable {l : Launch} {Gr : zG} {n w : Nat} {d : Nat} {b : Nat → Int32} {t p i i' j m f D tp sz u hd dd : Nat} {S S' S'' X : zS}
theorem kPop_c {c k : Nat} (h : ¬ (c = 39 ∧ k = 3)) : (kPop S).1 c k = S.1 c k := by
  unfold kPop
  rw [zi_get, if_neg h]
theorem kMust_c {r : Int32} {c k : Nat} (h1 : ¬ (c = 3 ∧ (k = 5 ∨ k = 6))) (h2 : ¬ (c = 39 ∧ k = 3)) : (kMust S r i).1 c k = S.1 c k := by
  unfold kMust
  split
  · exact kPop_c h2
  · exact (kT_c h1).trans (kPop_c h2)
theorem kMust_3 {r : Int32} (h : S.1 39 3 = nI (tp + 1)) : (kMust S r i).1 39 3 = nI tp := by
  unfold kMust
  split
  · exact kPop_3 h
  · exact (kT_c (by omega)).trans (kPop_3 h)
theorem kIn_c {c k : Nat} (h1 : ¬ (c = 3 ∧ (k = 5 ∨ k = 6))) : (kIn b t S i).1 c k = S.1 c k := by
  unfold kIn
  split
  · rfl
  · exact kT_c h1
theorem kOpen_c {c k : Nat} (h1 : ¬ (c = 39 ∧ k = 5)) (h2 : ¬ c = 41) : (kOpen S).1 c k = S.1 c k := by
  unfold kOpen
  rw [zi_c h2, zi_get, if_neg h1]
theorem kClose_c {c k : Nat} (h1 : ¬ (c = 39 ∧ k = 5)) (h2 : ¬ (c = 8 ∧ k = 11)) : (kClose S).1 c k = S.1 c k := by
  unfold kClose
  rw [zi_get, if_neg h2, zi_get, if_neg h1]
theorem kClose_5 (h : S.1 39 5 = nI (m + 1)) : (kClose S).1 39 5 = nI m := by
  unfold kClose
  rw [zi_c (by decide), h, nI_pred]
  exact zi_v
theorem g_21 (hg : ip_gk (lg_tbl, vwCl, Gr)) (h : CIx S i sz) (ho : S.1 4 i = 21)  : kS b t S i = S ∧ CG l Gr n w d S i (S) (i + 1) := by
  have hsz := h.2.1
  have hlt := h.2.2.2
  have hi : i < 4000 := by omega
  have hin : vp_in (nI i) 4000 := vp_in_nI hi (by omega)
  exact ⟨by unfold kS; rw [ho]; rfl, cg_F hg h ho (by decide) (by decide) (by decide) (e_Sorts_checkFactor (b_Sorts_checkFactor_0 hin (fun z => absurd z (by decide)) (fun z => absurd z (by decide)) (fun z => absurd z (by decide)) (fun z => absurd z (by decide)) (fun z => absurd z (by decide)) (fun z => absurd z (by decide)) (fun z => absurd z (by decide)) (fun z => absurd z (by decide)) (fun z => absurd z (by decide)) (fun z => absurd z (by decide)) (fun z => absurd z (by decide)) (fun z => absurd z (by decide)) (fun _ _ _ _ _ _ _ _ _ _ _ _ => b_Sorts_checkFactor_253 ⟨rfl, rfl⟩)))⟩
theorem g_22 (hg : ip_gk (lg_tbl, vwCl, Gr)) (h : CIx S i sz) (ho : S.1 4 i = 22) (h3 : S.1 39 3 = nI tp) (htp : tp < 372) : kS b t S i = kPush S 2 ∧ CG l Gr n w d S i (kPush S 2) (i + 1) := by
  have hsz := h.2.1
  have hlt := h.2.2.2
  have hi : i < 4000 := by omega
  have hin : vp_in (nI i) 4000 := vp_in_nI hi (by omega)
  exact ⟨by unfold kS; rw [ho]; rfl, cg_F hg h ho (by decide) (by decide) (by decide) (e_Sorts_checkFactor (b_Sorts_checkFactor_0 hin (fun _ => b_Sorts_checkFactor_72 hg (w_push h3 htp) (fun A eA => b_Sorts_checkFactor_77 (b_Sorts_checkFactor_253 ⟨rfl, eA⟩))) (fun z => absurd z (by decide)) (fun z => absurd z (by decide)) (fun z => absurd z (by decide)) (fun z => absurd z (by decide)) (fun z => absurd z (by decide)) (fun z => absurd z (by decide)) (fun z => absurd z (by decide)) (fun z => absurd z (by decide)) (fun z => absurd z (by decide)) (fun z => absurd z (by decide)) (fun z => absurd z (by decide)) (fun q _ _ _ _ _ _ _ _ _ _ _ => absurd rfl q)))⟩
theorem g_23 (hg : ip_gk (lg_tbl, vwCl, Gr)) (h : CIx S i sz) (ho : S.1 4 i = 23) (h3 : S.1 39 3 = nI tp) (htp : tp < 372) : kS b t S i = kPush S 3 ∧ CG l Gr n w d S i (kPush S 3) (i + 1) := by
  have hsz := h.2.1
  have hlt := h.2.2.2
  have hi : i < 4000 := by omega
  have hin : vp_in (nI i) 4000 := vp_in_nI hi (by omega)
  exact ⟨by unfold kS; rw [ho]; rfl, cg_F hg h ho (by decide) (by decide) (by decide) (e_Sorts_checkFactor (b_Sorts_checkFactor_0 hin (fun z => absurd z (by decide)) (fun _ => b_Sorts_checkFactor_80 hg (w_push h3 htp) (fun A eA => b_Sorts_checkFactor_85 (b_Sorts_checkFactor_253 ⟨rfl, eA⟩))) (fun z => absurd z (by decide)) (fun z => absurd z (by decide)) (fun z => absurd z (by decide)) (fun z => absurd z (by decide)) (fun z => absurd z (by decide)) (fun z => absurd z (by decide)) (fun z => absurd z (by decide)) (fun z => absurd z (by decide)) (fun z => absurd z (by decide)) (fun z => absurd z (by decide)) (fun _ q _ _ _ _ _ _ _ _ _ _ => absurd rfl q)))⟩
theorem g_24 (hg : ip_gk (lg_tbl, vwCl, Gr)) (h : CIx S i sz) (ho : S.1 4 i = 24) (hT : KT b t D S) (hV : KV S m f D) (hp : p ≤ t) (h6 : S.1 6 i = nI p) (h3 : S.1 39 3 = nI tp) (htp : tp < 372) : kS b t S i = kName b t S i ∧ CG l Gr n w d S i (kName b t S i) (i + 1) := by
  have hsz := h.2.1
  have hlt := h.2.2.2
  have hi : i < 4000 := by omega
  have hin : vp_in (nI i) 4000 := vp_in_nI hi (by omega)
  exact ⟨by unfold kS; rw [ho]; rfl, cg_F hg h ho (by decide) (by decide) (by decide) (e_Sorts_checkFactor (b_Sorts_checkFactor_0 hin (fun z => absurd z (by decide)) (fun z => absurd z (by decide)) (fun _ => b_Sorts_checkFactor_88 hg (w_checkName hg hT hV hi hp h6 h3 htp) (fun A eA => b_Sorts_checkFactor_93 (b_Sorts_checkFactor_253 ⟨rfl, eA⟩))) (fun z => absurd z (by decide)) (fun z => absurd z (by decide)) (fun z => absurd z (by decide)) (fun z => absurd z (by decide)) (fun z => absurd z (by decide)) (fun z => absurd z (by decide)) (fun z => absurd z (by decide)) (fun z => absurd z (by decide)) (fun z => absurd z (by decide)) (fun _ _ q _ _ _ _ _ _ _ _ _ => absurd rfl q)))⟩
theorem g_25 (hg : ip_gk (lg_tbl, vwCl, Gr)) (h : CIx S i sz) (ho : S.1 4 i = 25) (hT : KT b t D S) (hV : KV S m f D) (hp : p ≤ t) (h6 : S.1 6 i = nI p) : kS b t S i = kHead b t S i false ∧ CG l Gr n w d S i (kHead b t S i false) (i + 1) := by
  have hsz := h.2.1
  have hlt := h.2.2.2
  have hi : i < 4000 := by omega
  have hin : vp_in (nI i) 4000 := vp_in_nI hi (by omega)
  exact ⟨by unfold kS; rw [ho]; rfl, cg_F hg h ho (by decide) (by decide) (by decide) (e_Sorts_checkFactor (b_Sorts_checkFactor_0 hin (fun z => absurd z (by decide)) (fun z => absurd z (by decide)) (fun z => absurd z (by decide)) (fun _ => b_Sorts_checkFactor_96 (fun _ => b_Sorts_checkFactor_108 (b_Sorts_checkFactor_109 hg (w_checkHead (call := false) hg hT hV hi hp h6) (fun A eA => b_Sorts_checkFactor_112 (b_Sorts_checkFactor_253 ⟨rfl, eA⟩)))) (fun z => absurd z (by decide))) (fun z => absurd z (by decide)) (fun z => absurd z (by decide)) (fun z => absurd z (by decide)) (fun z => absurd z (by decide)) (fun z => absurd z (by decide)) (fun z => absurd z (by decide)) (fun z => absurd z (by decide)) (fun z => absurd z (by decide)) (fun _ _ _ q _ _ _ _ _ _ _ _ => absurd rfl q)))⟩
theorem g_28 (hg : ip_gk (lg_tbl, vwCl, Gr)) (h : CIx S i sz) (ho : S.1 4 i = 28) (hT : KT b t D S) (hV : KV S m f D) (hp : p ≤ t) (h6 : S.1 6 i = nI p) : kS b t S i = kHead b t S i true ∧ CG l Gr n w d S i (kHead b t S i true) (i + 1) := by
  have hsz := h.2.1
  have hlt := h.2.2.2
  have hi : i < 4000 := by omega
  have hin : vp_in (nI i) 4000 := vp_in_nI hi (by omega)
  exact ⟨by unfold kS; rw [ho]; rfl, cg_F hg h ho (by decide) (by decide) (by decide) (e_Sorts_checkFactor (b_Sorts_checkFactor_0 hin (fun z => absurd z (by decide)) (fun z => absurd z (by decide)) (fun z => absurd z (by decide)) (fun z => absurd z (by decide)) (fun z => absurd z (by decide)) (fun z => absurd z (by decide)) (fun _ => b_Sorts_checkFactor_96 (fun z => absurd rfl z) (fun _ => b_Sorts_checkFactor_104 (b_Sorts_checkFactor_109 hg (w_checkHead (call := true) hg hT hV hi hp h6) (fun A eA => b_Sorts_checkFactor_112 (b_Sorts_checkFactor_253 ⟨rfl, eA⟩))))) (fun z => absurd z (by decide)) (fun z => absurd z (by decide)) (fun z => absurd z (by decide)) (fun z => absurd z (by decide)) (fun z => absurd z (by decide)) (fun _ _ _ _ _ _ q _ _ _ _ _ => absurd rfl q)))⟩
theorem g_26 (hg : ip_gk (lg_tbl, vwCl, Gr)) (h : CIx S i sz) (ho : S.1 4 i = 26) (h3 : S.1 39 3 = nI (tp + 1)) (htp : tp < 372) (h5 : S.1 5 i = nI hd) (hhd : hd < 4000) : kS b t S i = zi (kMust S 0 i) 7 (S.1 5 i).toNatClampNeg (kTop S &&& 2) ∧ CG l Gr n w d S i (zi (kMust S 0 i) 7 (S.1 5 i).toNatClampNeg (kTop S &&& 2)) (i + 1) := by
  have hsz := h.2.1
  have hlt := h.2.2.2
  have hi : i < 4000 := by omega
  have hin : vp_in (nI i) 4000 := vp_in_nI hi (by omega)
  exact ⟨by unfold kS; rw [ho]; rfl, cg_F hg h ho (by decide) (by decide) (by decide) (e_Sorts_checkFactor (b_Sorts_checkFactor_0 hin (fun z => absurd z (by decide)) (fun z => absurd z (by decide)) (fun z => absurd z (by decide)) (fun z => absurd z (by decide)) (fun _ => by
    rw [nI_clamp (by omega)]
    exact b_Sorts_checkFactor_115 hg (w_mustBe hg h3 htp hi) (fun v A hv => by
      rw [hv.1, hv.2]
      exact b_Sorts_checkFactor_129 (by rw [h5]; exact vp_in_nI hhd (by omega)) (b_Sorts_checkFactor_253 ⟨rfl, rfl⟩))) (fun z => absurd z (by decide)) (fun z => absurd z (by decide)) (fun z => absurd z (by decide)) (fun z => absurd z (by decide)) (fun z => absurd z (by decide)) (fun z => absurd z (by decide)) (fun z => absurd z (by decide)) (fun _ _ _ _ q _ _ _ _ _ _ _ => absurd rfl q)))⟩
theorem g_27 (hg : ip_gk (lg_tbl, vwCl, Gr)) (h : CIx S i sz) (ho : S.1 4 i = 27) (h3 : S.1 39 3 = nI tp) (htp : tp < 372) (h5 : S.1 5 i = nI hd) (hhd : hd < 4000) (hdd : S.1 5 hd = nI dd) (hd8 : dd < 800) : kS b t S i = kPush S (S.1 12 (S.1 5 (S.1 5 i).toNatClampNeg).toNatClampNeg) ∧ CG l Gr n w d S i (kPush S (S.1 12 (S.1 5 (S.1 5 i).toNatClampNeg).toNatClampNeg)) (i + 1) := by
  have hsz := h.2.1
  have hlt := h.2.2.2
  have hi : i < 4000 := by omega
  have hin : vp_in (nI i) 4000 := vp_in_nI hi (by omega)
  exact ⟨by unfold kS; rw [ho]; rfl, cg_F hg h ho (by decide) (by decide) (by decide) (e_Sorts_checkFactor (b_Sorts_checkFactor_0 hin (fun z => absurd z (by decide)) (fun z => absurd z (by decide)) (fun z => absurd z (by decide)) (fun z => absurd z (by decide)) (fun z => absurd z (by decide)) (fun _ => by
    rw [nI_clamp (by omega)]
    exact b_Sorts_checkFactor_173 hg (by rw [h5]; exact vp_in_nI hhd (by omega)) (by rw [h5, nI_clamp (by omega), hdd]; exact vp_in_nI hd8 (by omega)) (w_push h3 htp) (fun A eA => b_Sorts_checkFactor_194 (b_Sorts_checkFactor_253 ⟨rfl, eA⟩))) (fun z => absurd z (by decide)) (fun z => absurd z (by decide)) (fun z => absurd z (by decide)) (fun z => absurd z (by decide)) (fun z => absurd z (by decide)) (fun z => absurd z (by decide)) (fun _ _ _ _ _ q _ _ _ _ _ _ => absurd rfl q)))⟩
theorem g_30 (hg : ip_gk (lg_tbl, vwCl, Gr)) (h : CIx S i sz) (ho : S.1 4 i = 30) (h3 : S.1 39 3 = nI tp) (htp : tp < 372) (h5 : S.1 5 i = nI hd) (hhd : hd < 4000) (hdd : S.1 5 hd = nI dd) (hd8 : dd < 800) : kS b t S i = kPush S (S.1 12 (S.1 5 (S.1 5 i).toNatClampNeg).toNatClampNeg) ∧ CG l Gr n w d S i (kPush S (S.1 12 (S.1 5 (S.1 5 i).toNatClampNeg).toNatClampNeg)) (i + 1) := by
  have hsz := h.2.1
  have hlt := h.2.2.2
  have hi : i < 4000 := by omega
  have hin : vp_in (nI i) 4000 := vp_in_nI hi (by omega)
  exact ⟨by unfold kS; rw [ho]; rfl, cg_F hg h ho (by decide) (by decide) (by decide) (e_Sorts_checkFactor (b_Sorts_checkFactor_0 hin (fun z => absurd z (by decide)) (fun z => absurd z (by decide)) (fun z => absurd z (by decide)) (fun z => absurd z (by decide)) (fun z => absurd z (by decide)) (fun z => absurd z (by decide)) (fun z => absurd z (by decide)) (fun z => absurd z (by decide)) (fun _ => by
    rw [nI_clamp (by omega)]
    exact b_Sorts_checkFactor_173 hg (by rw [h5]; exact vp_in_nI hhd (by omega)) (by rw [h5, nI_clamp (by omega), hdd]; exact vp_in_nI hd8 (by omega)) (w_push h3 htp) (fun A eA => b_Sorts_checkFactor_194 (b_Sorts_checkFactor_253 ⟨rfl, eA⟩))) (fun z => absurd z (by decide)) (fun z => absurd z (by decide)) (fun z => absurd z (by decide)) (fun _ _ _ _ _ _ _ _ q _ _ _ => absurd rfl q)))⟩
theorem g_29 (hg : ip_gk (lg_tbl, vwCl, Gr)) (h : CIx S i sz) (ho : S.1 4 i = 29) (h3 : S.1 39 3 = nI (tp + 1)) (htp : tp < 372) (h5 : S.1 5 i = nI hd) (hhd : hd < 4000) {a : Nat} (h7 : S.1 7 i = nI a) (hdd : S.1 5 hd = nI dd) (hd8 : dd + 1 + a < 800) : kS b t S i = kMust S (S.1 12 (S.1 5 (S.1 5 i).toNatClampNeg + 1 + S.1 7 i).toNatClampNeg) i ∧ CG l Gr n w d S i (kMust S (S.1 12 (S.1 5 (S.1 5 i).toNatClampNeg + 1 + S.1 7 i).toNatClampNeg) i) (i + 1) := by
  have hsz := h.2.1
  have hlt := h.2.2.2
  have hi : i < 4000 := by omega
  have hin : vp_in (nI i) 4000 := vp_in_nI hi (by omega)
  exact ⟨by unfold kS; rw [ho]; rfl, cg_F hg h ho (by decide) (by decide) (by decide) (e_Sorts_checkFactor (b_Sorts_checkFactor_0 hin (fun z => absurd z (by decide)) (fun z => absurd z (by decide)) (fun z => absurd z (by decide)) (fun z => absurd z (by decide)) (fun z => absurd z (by decide)) (fun z => absurd z (by decide)) (fun z => absurd z (by decide)) (fun _ => by
    rw [nI_clamp (by omega)]
    exact b_Sorts_checkFactor_135 (R := fun v S' => v = kTop S ∧ S' = kMust S (S.1 12 (S.1 5 (S.1 5 i).toNatClampNeg + 1 + S.1 7 i).toNatClampNeg) i) hg (by rw [h5]; exact vp_in_nI hhd (by omega)) hin (by rw [h5, nI_clamp (by omega), nI_clamp (by omega), hdd, h7, nI_1, nI_add]; exact vp_in_nI hd8 (by omega)) (by rw [nI_clamp (n := i) (by omega)]; exact w_mustBe hg h3 htp hi) (fun v A hv => b_Sorts_checkFactor_169 (b_Sorts_checkFactor_253 ⟨rfl, hv.2⟩))) (fun z => absurd z (by decide)) (fun z => absurd z (by decide)) (fun z => absurd z (by decide)) (fun z => absurd z (by decide)) (fun _ _ _ _ _ _ _ q _ _ _ _ => absurd rfl q)))⟩
theorem g_31 (hg : ip_gk (lg_tbl, vwCl, Gr)) (h : CIx S i sz) (ho : S.1 4 i = 31) (h3 : S.1 39 3 = nI (tp + 1)) (htp : tp < 372) : kS b t S i = kPush (kMust S 1 i) (0 ||| (kTop S &&& 2)) ∧ CG l Gr n w d S i (kPush (kMust S 1 i) (0 ||| (kTop S &&& 2))) (i + 1) := by
  have hsz := h.2.1
  have hlt := h.2.2.2
  have hi : i < 4000 := by omega
  have hin : vp_in (nI i) 4000 := vp_in_nI hi (by omega)
  exact ⟨by unfold kS; rw [ho]; rfl, cg_F hg h ho (by decide) (by decide) (by decide) (e_Sorts_checkFactor (b_Sorts_checkFactor_0 hin (fun z => absurd z (by decide)) (fun z => absurd z (by decide)) (fun z => absurd z (by decide)) (fun z => absurd z (by decide)) (fun z => absurd z (by decide)) (fun z => absurd z (by decide)) (fun z => absurd z (by decide)) (fun z => absurd z (by decide)) (fun z => absurd z (by decide)) (fun _ => b_Sorts_checkFactor_197 hg (w_mustBe hg h3 htp hi) (fun v A hv => by
      rw [hv.1, hv.2]
      exact b_Sorts_checkFactor_205 hg (w_push (kMust_3 h3) htp) (fun A eA => b_Sorts_checkFactor_211 (b_Sorts_checkFactor_253 ⟨rfl, eA⟩)))) (fun z => absurd z (by decide)) (fun z => absurd z (by decide)) (fun _ _ _ _ _ _ _ _ _ q _ _ => absurd rfl q)))⟩
theorem g_32 (hg : ip_gk (lg_tbl, vwCl, Gr)) (h : CIx S i sz) (ho : S.1 4 i = 32) (h3 : S.1 39 3 = nI (tp + 1)) (htp : tp < 372) : kS b t S i = kPush (kMust S 0 i) (1 ||| (kTop S &&& 2)) ∧ CG l Gr n w d S i (kPush (kMust S 0 i) (1 ||| (kTop S &&& 2))) (i + 1) := by
  have hsz := h.2.1
  have hlt := h.2.2.2
  have hi : i < 4000 := by omega
  have hin : vp_in (nI i) 4000 := vp_in_nI hi (by omega)
  exact ⟨by unfold kS; rw [ho]; rfl, cg_F hg h ho (by decide) (by decide) (by decide) (e_Sorts_checkFactor (b_Sorts_checkFactor_0 hin (fun z => absurd z (by decide)) (fun z => absurd z (by decide)) (fun z => absurd z (by decide)) (fun z => absurd z (by decide)) (fun z => absurd z (by decide)) (fun z => absurd z (by decide)) (fun z => absurd z (by decide)) (fun z => absurd z (by decide)) (fun z => absurd z (by decide)) (fun z => absurd z (by decide)) (fun _ => b_Sorts_checkFactor_214 hg (w_mustBe hg h3 htp hi) (fun v A hv => by
      rw [hv.1, hv.2]
      exact b_Sorts_checkFactor_222 hg (w_push (kMust_3 h3) htp) (fun A eA => b_Sorts_checkFactor_228 (b_Sorts_checkFactor_253 ⟨rfl, eA⟩)))) (fun z => absurd z (by decide)) (fun _ _ _ _ _ _ _ _ _ _ q _ => absurd rfl q)))⟩
theorem g_33 (hg : ip_gk (lg_tbl, vwCl, Gr)) (h : CIx S i sz) (ho : S.1 4 i = 33) (h3 : S.1 39 3 = nI (tp + 1)) (htp : tp < 372) : kS b t S i = kPub (kMust S 0 i) (kTop S) ((kMust S 0 i).1 6 i) ∧ CG l Gr n w d S i (kPub (kMust S 0 i) (kTop S) ((kMust S 0 i).1 6 i)) (i + 1) := by
  have hsz := h.2.1
  have hlt := h.2.2.2
  have hi : i < 4000 := by omega
  have hin : vp_in (nI i) 4000 := vp_in_nI hi (by omega)
  exact ⟨by unfold kS; rw [ho]; rfl, cg_F hg h ho (by decide) (by decide) (by decide) (e_Sorts_checkFactor (b_Sorts_checkFactor_0 hin (fun z => absurd z (by decide)) (fun z => absurd z (by decide)) (fun z => absurd z (by decide)) (fun z => absurd z (by decide)) (fun z => absurd z (by decide)) (fun z => absurd z (by decide)) (fun z => absurd z (by decide)) (fun z => absurd z (by decide)) (fun z => absurd z (by decide)) (fun z => absurd z (by decide)) (fun z => absurd z (by decide)) (fun _ => b_Sorts_checkFactor_231 hg (w_mustBe hg h3 htp hi) (fun v A hv => by
      rw [hv.1, hv.2]
      exact b_Sorts_checkFactor_238 (R := fun S' => S' = kPub (kMust S 0 i) (kTop S) ((kMust S 0 i).1 6 i)) hg hin (by rw [nI_clamp (by omega)]; exact w_pub hg) (fun A eA => b_Sorts_checkFactor_250 (b_Sorts_checkFactor_253 ⟨rfl, eA⟩)))) (fun _ _ _ _ _ _ _ _ _ _ _ q => absurd rfl q)))⟩
theorem g_34 (hg : ip_gk (lg_tbl, vwCl, Gr)) (h : CIx S i sz) (ho : S.1 4 i = 34) (h3 : S.1 39 3 = nI (tp + 1)) (htp : tp < 372) : kS b t S i = kUna S i (S.1 4 i) ∧ CG l Gr n w d S i (kUna S i (S.1 4 i)) (i + 1) := by
  have hsz := h.2.1
  have hlt := h.2.2.2
  have hi : i < 4000 := by omega
  have hin : vp_in (nI i) 4000 := vp_in_nI hi (by omega)
  exact ⟨by unfold kS; rw [ho]; rfl, cg_U hg h ho (by decide) (by decide) (by decide) (by rw [ho]; exact w_checkUna hg (by decide) h3 htp hi)⟩
theorem g_35 (hg : ip_gk (lg_tbl, vwCl, Gr)) (h : CIx S i sz) (ho : S.1 4 i = 35) (h3 : S.1 39 3 = nI (tp + 1)) (htp : tp < 372) : kS b t S i = kUna S i (S.1 4 i) ∧ CG l Gr n w d S i (kUna S i (S.1 4 i)) (i + 1) := by
  have hsz := h.2.1
  have hlt := h.2.2.2
  have hi : i < 4000 := by omega
  have hin : vp_in (nI i) 4000 := vp_in_nI hi (by omega)
  exact ⟨by unfold kS; rw [ho]; rfl, cg_U hg h ho (by decide) (by decide) (by decide) (by rw [ho]; exact w_checkUna hg (by decide) h3 htp hi)⟩
theorem g_36 (hg : ip_gk (lg_tbl, vwCl, Gr)) (h : CIx S i sz) (ho : S.1 4 i = 36) (h3 : S.1 39 3 = nI (tp + 1)) (htp : tp < 372) : kS b t S i = kUna S i (S.1 4 i) ∧ CG l Gr n w d S i (kUna S i (S.1 4 i)) (i + 1) := by
  have hsz := h.2.1
  have hlt := h.2.2.2
  have hi : i < 4000 := by omega
  have hin : vp_in (nI i) 4000 := vp_in_nI hi (by omega)
  exact ⟨by unfold kS; rw [ho]; rfl, cg_U hg h ho (by decide) (by decide) (by decide) (by rw [ho]; exact w_checkUna hg (by decide) h3 htp hi)⟩
theorem g_37 (hg : ip_gk (lg_tbl, vwCl, Gr)) (h : CIx S i sz) (ho : S.1 4 i = 37) (h3 : S.1 39 3 = nI (tp + 3)) (htp : tp + 2 < 372) : kS b t S i = kSel S i ∧ CG l Gr n w d S i (kSel S i) (i + 1) := by
  have hsz := h.2.1
  have hlt := h.2.2.2
  have hi : i < 4000 := by omega
  have hin : vp_in (nI i) 4000 := vp_in_nI hi (by omega)
  exact ⟨by unfold kS; rw [ho]; rfl, cg_U hg h ho (by decide) (by decide) (by decide) (w_checkSel hg h3 htp hi)⟩
theorem g_2 (hg : ip_gk (lg_tbl, vwCl, Gr)) (h : CIx S i sz) (ho : S.1 4 i = 2) (hT : KT b t D S) (hV : KV S m f D) (hp : p ≤ t) (h6 : S.1 6 i = nI p) (hm : m < 800) : kS b t S i = kShow (kIn b t S i) (S.1 5 i) ∧ CG l Gr n w d S i (kShow (kIn b t S i) (S.1 5 i)) (i + 1) := by
  have hsz := h.2.1
  have hlt := h.2.2.2
  have hi : i < 4000 := by omega
  have hin : vp_in (nI i) 4000 := vp_in_nI hi (by omega)
  exact ⟨by unfold kS; rw [ho]; rfl, cg_S hg h ho (by decide) (by decide) (by decide) (e_Sorts_checkStatement (b_Sorts_checkStatement_0 hin (fun _ => by
    rw [nI_clamp (by omega)]
    exact b_Sorts_checkStatement_88 hg (w_comeIn hg hT hV hi hp h6) (fun A eA => by
      rw [eA]
      exact b_Sorts_checkStatement_93 hg (w_show ((kIn_c (by omega)).trans hV.1) hm) (fun A eA => b_Sorts_checkStatement_101 (b_Sorts_checkStatement_305 ⟨rfl, eA⟩)))) (fun z => absurd z (by decide)) (fun z => absurd z (by decide)) (fun z => absurd z (by decide)) (fun z => absurd z (by decide)) (fun z => absurd z (by decide)) (fun z => absurd z (by decide)) (fun z => absurd z (by decide)) (fun z => absurd z (by decide)) (fun z => absurd z (by decide)) (fun z => absurd z (by decide)) (fun z => absurd z (by decide)) (fun z => absurd z (by decide)) (fun q _ _ _ _ _ _ _ _ _ _ _ _ => absurd rfl q)))⟩
theorem g_4 (hg : ip_gk (lg_tbl, vwCl, Gr)) (h : CIx S i sz) (ho : S.1 4 i = 4) (hT : KT b t D S) (hV : KV S m f D) (hp : p ≤ t) (h6 : S.1 6 i = nI p) (hm : m < 800) : kS b t S i = kShow (kIn b t S i) (S.1 5 i) ∧ CG l Gr n w d S i (kShow (kIn b t S i) (S.1 5 i)) (i + 1) := by
  have hsz := h.2.1
  have hlt := h.2.2.2
  have hi : i < 4000 := by omega
  have hin : vp_in (nI i) 4000 := vp_in_nI hi (by omega)
  exact ⟨by unfold kS; rw [ho]; rfl, cg_S hg h ho (by decide) (by decide) (by decide) (e_Sorts_checkStatement (b_Sorts_checkStatement_0 hin (fun z => absurd z (by decide)) (fun z => absurd z (by decide)) (fun _ => by
    rw [nI_clamp (by omega)]
    exact b_Sorts_checkStatement_88 hg (w_comeIn hg hT hV hi hp h6) (fun A eA => by
      rw [eA]
      exact b_Sorts_checkStatement_93 hg (w_show ((kIn_c (by omega)).trans hV.1) hm) (fun A eA => b_Sorts_checkStatement_101 (b_Sorts_checkStatement_305 ⟨rfl, eA⟩)))) (fun z => absurd z (by decide)) (fun z => absurd z (by decide)) (fun z => absurd z (by decide)) (fun z => absurd z (by decide)) (fun z => absurd z (by decide)) (fun z => absurd z (by decide)) (fun z => absurd z (by decide)) (fun z => absurd z (by decide)) (fun z => absurd z (by decide)) (fun z => absurd z (by decide)) (fun _ _ q _ _ _ _ _ _ _ _ _ _ => absurd rfl q)))⟩
theorem g_3 (hg : ip_gk (lg_tbl, vwCl, Gr)) (h : CIx S i sz) (ho : S.1 4 i = 3) (hT : KT b t D S) (hV : KV S m f D) (hp : p ≤ t) (h6 : S.1 6 i = nI p) : kS b t S i = zi (kIn b t S i) 8 12 ((kIn b t S i).1 8 11) ∧ CG l Gr n w d S i (zi (kIn b t S i) 8 12 ((kIn b t S i).1 8 11)) (i + 1) := by
  have hsz := h.2.1
  have hlt := h.2.2.2
  have hi : i < 4000 := by omega
  have hin : vp_in (nI i) 4000 := vp_in_nI hi (by omega)
  exact ⟨by unfold kS; rw [ho]; rfl, cg_S hg h ho (by decide) (by decide) (by decide) (e_Sorts_checkStatement (b_Sorts_checkStatement_0 hin (fun z => absurd z (by decide)) (fun _ => b_Sorts_checkStatement_104 hg (w_comeIn hg hT hV hi hp h6) (fun A eA => by
      rw [eA]
      exact b_Sorts_checkStatement_109 (R := fun S' => S' = zi (kIn b t S i) 8 12 ((kIn b t S i).1 8 11)) hg (e_Names_enterDef (b_Names_enterDef_0 ⟨rfl, rfl⟩)) (fun A eA => b_Sorts_checkStatement_116 (b_Sorts_checkStatement_305 ⟨rfl, eA⟩)))) (fun z => absurd z (by decide)) (fun z => absurd z (by decide)) (fun z => absurd z (by decide)) (fun z => absurd z (by decide)) (fun z => absurd z (by decide)) (fun z => absurd z (by decide)) (fun z => absurd z (by decide)) (fun z => absurd z (by decide)) (fun z => absurd z (by decide)) (fun z => absurd z (by decide)) (fun z => absurd z (by decide)) (fun _ q _ _ _ _ _ _ _ _ _ _ _ => absurd rfl q)))⟩
theorem g_5 (hg : ip_gk (lg_tbl, vwCl, Gr)) (h : CIx S i sz) (ho : S.1 4 i = 5) (h3 : S.1 39 3 = nI (tp + 1)) (htp : tp < 372) (h5 : S.1 5 i = nI dd) (hd8 : dd < 800) (h12 : S.1 8 12 = nI f) (hf : f < 800) : kS b t S i = kShow (zi (zi (kMust S (S.1 12 (S.1 5 i).toNatClampNeg) i) 8 11 ((kMust S (S.1 12 (S.1 5 i).toNatClampNeg) i).1 8 12)) 8 12 0) (S.1 5 i) ∧ CG l Gr n w d S i (kShow (zi (zi (kMust S (S.1 12 (S.1 5 i).toNatClampNeg) i) 8 11 ((kMust S (S.1 12 (S.1 5 i).toNatClampNeg) i).1 8 12)) 8 12 0) (S.1 5 i)) (i + 1) := by
  have hsz := h.2.1
  have hlt := h.2.2.2
  have hi : i < 4000 := by omega
  have hin : vp_in (nI i) 4000 := vp_in_nI hi (by omega)
  exact ⟨by unfold kS; rw [ho]; rfl, cg_S hg h ho (by decide) (by decide) (by decide) (e_Sorts_checkStatement (b_Sorts_checkStatement_0 hin (fun z => absurd z (by decide)) (fun z => absurd z (by decide)) (fun z => absurd z (by decide)) (fun _ => by
    rw [nI_clamp (by omega)]
    exact b_Sorts_checkStatement_119 hg (by rw [h5]; exact vp_in_nI hd8 (by omega)) (w_mustBe hg h3 htp hi) (fun v A hv => by
      rw [hv.2]
      exact b_Sorts_checkStatement_133 (R := fun S' => S' = zi (zi (kMust S (S.1 12 (S.1 5 i).toNatClampNeg) i) 8 11 ((kMust S (S.1 12 (S.1 5 i).toNatClampNeg) i).1 8 12)) 8 12 0) hg (e_Names_leaveDef (b_Names_leaveDef_0 ⟨rfl, rfl⟩)) (fun A eA => by
        rw [eA]
        exact b_Sorts_checkStatement_141 hg (w_show (by rw [zi_k (by decide), zi_v]; exact (kMust_c (by omega) (by omega)).trans h12) hf) (fun A eA => b_Sorts_checkStatement_149 (b_Sorts_checkStatement_305 ⟨rfl, eA⟩))))) (fun z => absurd z (by decide)) (fun z => absurd z (by decide)) (fun z => absurd z (by decide)) (fun z => absurd z (by decide)) (fun z => absurd z (by decide)) (fun z => absurd z (by decide)) (fun z => absurd z (by decide)) (fun z => absurd z (by decide)) (fun z => absurd z (by decide)) (fun _ _ _ q _ _ _ _ _ _ _ _ _ => absurd rfl q)))⟩
theorem g_6 (hg : ip_gk (lg_tbl, vwCl, Gr)) (h : CIx S i sz) (ho : S.1 4 i = 6) (hT : KT b t D S) (hV : KV S m f D) (hp : p ≤ t) (h6 : S.1 6 i = nI p) (h5 : S.1 5 i = nI dd) (hd8 : dd < 800) : kS b t S i = zi (kIn b t S i) 39 10 ((kIn b t S i).1 39 10 + ip_max 1 ((kIn b t S i).1 13 (S.1 5 i).toNatClampNeg)) ∧ CG l Gr n w d S i (zi (kIn b t S i) 39 10 ((kIn b t S i).1 39 10 + ip_max 1 ((kIn b t S i).1 13 (S.1 5 i).toNatClampNeg))) (i + 1) := by
  have hsz := h.2.1
  have hlt := h.2.2.2
  have hi : i < 4000 := by omega
  have hin : vp_in (nI i) 4000 := vp_in_nI hi (by omega)
  exact ⟨by unfold kS; rw [ho]; rfl, cg_S hg h ho (by decide) (by decide) (by decide) (e_Sorts_checkStatement (b_Sorts_checkStatement_0 hin (fun z => absurd z (by decide)) (fun z => absurd z (by decide)) (fun z => absurd z (by decide)) (fun z => absurd z (by decide)) (fun _ => by
    rw [nI_clamp (by omega)]
    exact b_Sorts_checkStatement_152 hg (w_comeIn hg hT hV hi hp h6) (fun A eA => by
      rw [eA]
      exact b_Sorts_checkStatement_157 (R := fun v S' => v = ip_max 1 ((kIn b t S i).1 13 (S.1 5 i).toNatClampNeg) ∧ S' = kIn b t S i) hg (by rw [h5, nI_clamp (by omega)]; exact w_wrds hd8) (fun v A hv => by
        rw [hv.1, hv.2]
        exact b_Sorts_checkStatement_170 (b_Sorts_checkStatement_305 ⟨rfl, rfl⟩)))) (fun z => absurd z (by decide)) (fun z => absurd z (by decide)) (fun z => absurd z (by decide)) (fun z => absurd z (by decide)) (fun z => absurd z (by decide)) (fun z => absurd z (by decide)) (fun z => absurd z (by decide)) (fun z => absurd z (by decide)) (fun _ _ _ _ q _ _ _ _ _ _ _ _ => absurd rfl q)))⟩
theorem g_7 (hg : ip_gk (lg_tbl, vwCl, Gr)) (h : CIx S i sz) (ho : S.1 4 i = 7) (h3 : S.1 39 3 = nI (tp + 1)) (htp : tp < 372) (h5 : S.1 5 i = nI dd) (hd8 : dd < 800) (h11 : S.1 8 11 = nI m) (hm : m < 800) : kS b t S i = kShow (kMust S (S.1 12 (S.1 5 i).toNatClampNeg) i) (S.1 5 i) ∧ CG l Gr n w d S i (kShow (kMust S (S.1 12 (S.1 5 i).toNatClampNeg) i) (S.1 5 i)) (i + 1) := by
  have hsz := h.2.1
  have hlt := h.2.2.2
  have hi : i < 4000 := by omega
  have hin : vp_in (nI i) 4000 := vp_in_nI hi (by omega)
  exact ⟨by unfold kS; rw [ho]; rfl, cg_S hg h ho (by decide) (by decide) (by decide) (e_Sorts_checkStatement (b_Sorts_checkStatement_0 hin (fun z => absurd z (by decide)) (fun z => absurd z (by decide)) (fun z => absurd z (by decide)) (fun z => absurd z (by decide)) (fun z => absurd z (by decide)) (fun _ => by
    rw [nI_clamp (by omega)]
    exact b_Sorts_checkStatement_185 hg (by rw [h5]; exact vp_in_nI hd8 (by omega)) (w_mustBe hg h3 htp hi) (fun v A hv => by
      rw [hv.2]
      exact b_Sorts_checkStatement_199 hg (w_show ((kMust_c (by omega) (by omega)).trans h11) hm) (fun A eA => b_Sorts_checkStatement_208 (b_Sorts_checkStatement_305 ⟨rfl, eA⟩)))) (fun z => absurd z (by decide)) (fun z => absurd z (by decide)) (fun z => absurd z (by decide)) (fun z => absurd z (by decide)) (fun z => absurd z (by decide)) (fun z => absurd z (by decide)) (fun z => absurd z (by decide)) (fun _ _ _ _ _ q _ _ _ _ _ _ _ => absurd rfl q)))⟩
theorem g_8 (hg : ip_gk (lg_tbl, vwCl, Gr)) (h : CIx S i sz) (ho : S.1 4 i = 8) (h11 : S.1 8 11 = nI m) (hm : m < 800) : kS b t S i = kShow S (S.1 5 i) ∧ CG l Gr n w d S i (kShow S (S.1 5 i)) (i + 1) := by
  have hsz := h.2.1
  have hlt := h.2.2.2
  have hi : i < 4000 := by omega
  have hin : vp_in (nI i) 4000 := vp_in_nI hi (by omega)
  exact ⟨by unfold kS; rw [ho]; rfl, cg_S hg h ho (by decide) (by decide) (by decide) (e_Sorts_checkStatement (b_Sorts_checkStatement_0 hin (fun z => absurd z (by decide)) (fun z => absurd z (by decide)) (fun z => absurd z (by decide)) (fun z => absurd z (by decide)) (fun z => absurd z (by decide)) (fun z => absurd z (by decide)) (fun _ => by
    rw [nI_clamp (by omega)]
    exact b_Sorts_checkStatement_211 hg (w_show h11 hm) (fun A eA => b_Sorts_checkStatement_219 (b_Sorts_checkStatement_305 ⟨rfl, eA⟩))) (fun z => absurd z (by decide)) (fun z => absurd z (by decide)) (fun z => absurd z (by decide)) (fun z => absurd z (by decide)) (fun z => absurd z (by decide)) (fun z => absurd z (by decide)) (fun _ _ _ _ _ _ q _ _ _ _ _ _ => absurd rfl q)))⟩
theorem g_9 (hg : ip_gk (lg_tbl, vwCl, Gr)) (h : CIx S i sz) (ho : S.1 4 i = 9) (hT : KT b t D S) (hV : KV S m f D) (hp : p ≤ t) (h6 : S.1 6 i = nI p) : kS b t S i = kTarget b t S i false ∧ CG l Gr n w d S i (kTarget b t S i false) (i + 1) := by
  have hsz := h.2.1
  have hlt := h.2.2.2
  have hi : i < 4000 := by omega
  have hin : vp_in (nI i) 4000 := vp_in_nI hi (by omega)
  exact ⟨by unfold kS; rw [ho]; rfl, cg_S hg h ho (by decide) (by decide) (by decide) (e_Sorts_checkStatement (b_Sorts_checkStatement_0 hin (fun z => absurd z (by decide)) (fun z => absurd z (by decide)) (fun z => absurd z (by decide)) (fun z => absurd z (by decide)) (fun z => absurd z (by decide)) (fun z => absurd z (by decide)) (fun z => absurd z (by decide)) (fun _ => b_Sorts_checkStatement_222 (fun _ => b_Sorts_checkStatement_234 (b_Sorts_checkStatement_235 hg (w_checkTarget (el := false) hg hT hV hi hp h6) (fun A eA => b_Sorts_checkStatement_238 (b_Sorts_checkStatement_305 ⟨rfl, eA⟩)))) (fun z => absurd z (by decide))) (fun z => absurd z (by decide)) (fun z => absurd z (by decide)) (fun z => absurd z (by decide)) (fun z => absurd z (by decide)) (fun z => absurd z (by decide)) (fun _ _ _ _ _ _ _ q _ _ _ _ _ => absurd rfl q)))⟩
theorem g_11 (hg : ip_gk (lg_tbl, vwCl, Gr)) (h : CIx S i sz) (ho : S.1 4 i = 11) (hT : KT b t D S) (hV : KV S m f D) (hp : p ≤ t) (h6 : S.1 6 i = nI p) : kS b t S i = kTarget b t S i true ∧ CG l Gr n w d S i (kTarget b t S i true) (i + 1) := by
  have hsz := h.2.1
  have hlt := h.2.2.2
  have hi : i < 4000 := by omega
  have hin : vp_in (nI i) 4000 := vp_in_nI hi (by omega)
  exact ⟨by unfold kS; rw [ho]; rfl, cg_S hg h ho (by decide) (by decide) (by decide) (e_Sorts_checkStatement (b_Sorts_checkStatement_0 hin (fun z => absurd z (by decide)) (fun z => absurd z (by decide)) (fun z => absurd z (by decide)) (fun z => absurd z (by decide)) (fun z => absurd z (by decide)) (fun z => absurd z (by decide)) (fun z => absurd z (by decide)) (fun z => absurd z (by decide)) (fun z => absurd z (by decide)) (fun _ => b_Sorts_checkStatement_222 (fun z => absurd rfl z) (fun _ => b_Sorts_checkStatement_230 (b_Sorts_checkStatement_235 hg (w_checkTarget (el := true) hg hT hV hi hp h6) (fun A eA => b_Sorts_checkStatement_238 (b_Sorts_checkStatement_305 ⟨rfl, eA⟩))))) (fun z => absurd z (by decide)) (fun z => absurd z (by decide)) (fun z => absurd z (by decide)) (fun _ _ _ _ _ _ _ _ _ q _ _ _ => absurd rfl q)))⟩
theorem g_10 (hg : ip_gk (lg_tbl, vwCl, Gr)) (h : CIx S i sz) (ho : S.1 4 i = 10) (h3 : S.1 39 3 = nI (tp + 1)) (htp : tp < 372) (h5 : S.1 5 i = nI hd) (hhd : hd < 4000) (hdd : S.1 5 hd = nI dd) (hd8 : dd < 800) (h9 : S.1 39 9 = nI u) (hu : u ≤ 31) : kS b t S i = kNote (kMust S (S.1 12 (S.1 5 (S.1 5 i).toNatClampNeg).toNatClampNeg) i) ((kMust S (S.1 12 (S.1 5 (S.1 5 i).toNatClampNeg).toNatClampNeg) i).1 5 (S.1 5 i).toNatClampNeg).toNatClampNeg ∧ CG l Gr n w d S i (kNote (kMust S (S.1 12 (S.1 5 (S.1 5 i).toNatClampNeg).toNatClampNeg) i) ((kMust S (S.1 12 (S.1 5 (S.1 5 i).toNatClampNeg).toNatClampNeg) i).1 5 (S.1 5 i).toNatClampNeg).toNatClampNeg) (i + 1) := by
  have hsz := h.2.1
  have hlt := h.2.2.2
  have hi : i < 4000 := by omega
  have hin : vp_in (nI i) 4000 := vp_in_nI hi (by omega)
  exact ⟨by unfold kS; rw [ho]; rfl, cg_S hg h ho (by decide) (by decide) (by decide) (e_Sorts_checkStatement (b_Sorts_checkStatement_0 hin (fun z => absurd z (by decide)) (fun z => absurd z (by decide)) (fun z => absurd z (by decide)) (fun z => absurd z (by decide)) (fun z => absurd z (by decide)) (fun z => absurd z (by decide)) (fun z => absurd z (by decide)) (fun z => absurd z (by decide)) (fun _ => by
    rw [nI_clamp (by omega)]
    exact b_Sorts_checkStatement_241 hg (by rw [h5]; exact vp_in_nI hhd (by omega)) (by rw [h5, nI_clamp (by omega), hdd]; exact vp_in_nI hd8 (by omega)) (w_mustBe hg h3 htp hi) (fun v A hv => by
      rw [hv.2]
      exact b_Sorts_checkStatement_263 (R := fun S' => S' = kNote (kMust S (S.1 12 (S.1 5 (S.1 5 i).toNatClampNeg).toNatClampNeg) i) ((kMust S (S.1 12 (S.1 5 (S.1 5 i).toNatClampNeg).toNatClampNeg) i).1 5 (S.1 5 i).toNatClampNeg).toNatClampNeg) hg (by rw [h5]; exact vp_in_nI hhd (by omega)) (by
        have e : (kMust S (S.1 12 (S.1 5 (S.1 5 i).toNatClampNeg).toNatClampNeg) i).1 5 (S.1 5 i).toNatClampNeg = nI dd := by rw [kMust_c (by omega) (by omega), h5, nI_clamp (by omega)]; exact hdd
        rw [e, nI_clamp (by omega)]
        exact w_note hg hd8 ((kMust_c (by omega) (by omega)).trans h9) hu) (fun A eA => b_Sorts_checkStatement_277 (b_Sorts_checkStatement_305 ⟨rfl, eA⟩)))) (fun z => absurd z (by decide)) (fun z => absurd z (by decide)) (fun z => absurd z (by decide)) (fun z => absurd z (by decide)) (fun _ _ _ _ _ _ _ _ q _ _ _ _ => absurd rfl q)))⟩
theorem g_12 (hg : ip_gk (lg_tbl, vwCl, Gr)) (h : CIx S i sz) (ho : S.1 4 i = 12) (h3 : S.1 39 3 = nI (tp + 1)) (htp : tp < 372) (h5 : S.1 5 i = nI hd) (hhd : hd < 4000) (hdd : S.1 5 hd = nI dd) (hd8 : dd < 800) (h9 : S.1 39 9 = nI u) (hu : u ≤ 31) : kS b t S i = kNote (kMust S (S.1 12 (S.1 5 (S.1 5 i).toNatClampNeg).toNatClampNeg) i) ((kMust S (S.1 12 (S.1 5 (S.1 5 i).toNatClampNeg).toNatClampNeg) i).1 5 (S.1 5 i).toNatClampNeg).toNatClampNeg ∧ CG l Gr n w d S i (kNote (kMust S (S.1 12 (S.1 5 (S.1 5 i).toNatClampNeg).toNatClampNeg) i) ((kMust S (S.1 12 (S.1 5 (S.1 5 i).toNatClampNeg).toNatClampNeg) i).1 5 (S.1 5 i).toNatClampNeg).toNatClampNeg) (i + 1) := by
  have hsz := h.2.1
  have hlt := h.2.2.2
  have hi : i < 4000 := by omega
  have hin : vp_in (nI i) 4000 := vp_in_nI hi (by omega)
  exact ⟨by unfold kS; rw [ho]; rfl, cg_S hg h ho (by decide) (by decide) (by decide) (e_Sorts_checkStatement (b_Sorts_checkStatement_0 hin (fun z => absurd z (by decide)) (fun z => absurd z (by decide)) (fun z => absurd z (by decide)) (fun z => absurd z (by decide)) (fun z => absurd z (by decide)) (fun z => absurd z (by decide)) (fun z => absurd z (by decide)) (fun z => absurd z (by decide)) (fun z => absurd z (by decide)) (fun z => absurd z (by decide)) (fun _ => by
    rw [nI_clamp (by omega)]
    exact b_Sorts_checkStatement_241 hg (by rw [h5]; exact vp_in_nI hhd (by omega)) (by rw [h5, nI_clamp (by omega), hdd]; exact vp_in_nI hd8 (by omega)) (w_mustBe hg h3 htp hi) (fun v A hv => by
      rw [hv.2]
      exact b_Sorts_checkStatement_263 (R := fun S' => S' = kNote (kMust S (S.1 12 (S.1 5 (S.1 5 i).toNatClampNeg).toNatClampNeg) i) ((kMust S (S.1 12 (S.1 5 (S.1 5 i).toNatClampNeg).toNatClampNeg) i).1 5 (S.1 5 i).toNatClampNeg).toNatClampNeg) hg (by rw [h5]; exact vp_in_nI hhd (by omega)) (by
        have e : (kMust S (S.1 12 (S.1 5 (S.1 5 i).toNatClampNeg).toNatClampNeg) i).1 5 (S.1 5 i).toNatClampNeg = nI dd := by rw [kMust_c (by omega) (by omega), h5, nI_clamp (by omega)]; exact hdd
        rw [e, nI_clamp (by omega)]
        exact w_note hg hd8 ((kMust_c (by omega) (by omega)).trans h9) hu) (fun A eA => b_Sorts_checkStatement_277 (b_Sorts_checkStatement_305 ⟨rfl, eA⟩)))) (fun z => absurd z (by decide)) (fun z => absurd z (by decide)) (fun _ _ _ _ _ _ _ _ _ _ q _ _ => absurd rfl q)))⟩
theorem g_13 (hg : ip_gk (lg_tbl, vwCl, Gr)) (h : CIx S i sz) (ho : S.1 4 i = 13) (h3 : S.1 39 3 = nI (tp + 1)) (htp : tp < 372) : kS b t S i = zi (kPop S) 5 i (kTop S &&& 1) ∧ CG l Gr n w d S i (zi (kPop S) 5 i (kTop S &&& 1)) (i + 1) := by
  have hsz := h.2.1
  have hlt := h.2.2.2
  have hi : i < 4000 := by omega
  have hin : vp_in (nI i) 4000 := vp_in_nI hi (by omega)
  exact ⟨by unfold kS; rw [ho]; rfl, cg_S hg h ho (by decide) (by decide) (by decide) (e_Sorts_checkStatement (b_Sorts_checkStatement_0 hin (fun z => absurd z (by decide)) (fun z => absurd z (by decide)) (fun z => absurd z (by decide)) (fun z => absurd z (by decide)) (fun z => absurd z (by decide)) (fun z => absurd z (by decide)) (fun z => absurd z (by decide)) (fun z => absurd z (by decide)) (fun z => absurd z (by decide)) (fun z => absurd z (by decide)) (fun z => absurd z (by decide)) (fun _ => b_Sorts_checkStatement_280 hg (w_pop h3 htp) (fun v A hv => by
      rw [hv.1, hv.2]
      exact b_Sorts_checkStatement_292 hg w_sortOf (fun v A hv => by
        rw [hv.1, hv.2]
        exact b_Sorts_checkStatement_295 hin (b_Sorts_checkStatement_305 ⟨rfl, by rw [nI_clamp (by omega)]⟩)))) (fun z => absurd z (by decide)) (fun _ _ _ _ _ _ _ _ _ _ _ q _ => absurd rfl q)))⟩
theorem g_17 (hg : ip_gk (lg_tbl, vwCl, Gr)) (h : CIx S i sz) (ho : S.1 4 i = 17) (hT : KT b t D S) (hV : KV S m f D) (hp : p ≤ t) (h6 : S.1 6 i = nI p) : kS b t S i = kIn b t S i ∧ CG l Gr n w d S i (kIn b t S i) (i + 1) := by
  have hsz := h.2.1
  have hlt := h.2.2.2
  have hi : i < 4000 := by omega
  have hin : vp_in (nI i) 4000 := vp_in_nI hi (by omega)
  exact ⟨by unfold kS; rw [ho]; rfl, cg_S hg h ho (by decide) (by decide) (by decide) (e_Sorts_checkStatement (b_Sorts_checkStatement_0 hin (fun z => absurd z (by decide)) (fun z => absurd z (by decide)) (fun z => absurd z (by decide)) (fun z => absurd z (by decide)) (fun z => absurd z (by decide)) (fun z => absurd z (by decide)) (fun z => absurd z (by decide)) (fun z => absurd z (by decide)) (fun z => absurd z (by decide)) (fun z => absurd z (by decide)) (fun z => absurd z (by decide)) (fun z => absurd z (by decide)) (fun _ => b_Sorts_checkStatement_177 hg (w_comeIn hg hT hV hi hp h6) (fun A eA => b_Sorts_checkStatement_182 (b_Sorts_checkStatement_305 ⟨rfl, eA⟩))) (fun _ _ _ _ _ _ _ _ _ _ _ _ q => absurd rfl q)))⟩
theorem g_14 (hg : ip_gk (lg_tbl, vwCl, Gr)) (h : CIx S i sz) (ho : S.1 4 i = 14) (h3 : S.1 39 3 = nI (tp + 1)) (htp : tp < 372) (h5 : S.1 39 5 = nI m) (hm : m < 31) (h9 : S.1 39 9 = nI u) (hu : u < 31) : kS b t S i = kOpenIf (kOpen (kMust S 1 i)) ∧ CG l Gr n w d S i (kOpenIf (kOpen (kMust S 1 i))) (i + 1) := by
  have hsz := h.2.1
  have hlt := h.2.2.2
  have hi : i < 4000 := by omega
  have hin : vp_in (nI i) 4000 := vp_in_nI hi (by omega)
  exact ⟨by unfold kS; rw [ho]; rfl, cg_S hg h ho (by decide) (by decide) (by decide) (e_Sorts_checkStatement (b_Sorts_checkStatement_0 hin (fun z => absurd z (by decide)) (fun z => absurd z (by decide)) (fun z => absurd z (by decide)) (fun z => absurd z (by decide)) (fun z => absurd z (by decide)) (fun z => absurd z (by decide)) (fun z => absurd z (by decide)) (fun z => absurd z (by decide)) (fun z => absurd z (by decide)) (fun z => absurd z (by decide)) (fun z => absurd z (by decide)) (fun z => absurd z (by decide)) (fun z => absurd z (by decide)) (fun _ _ _ _ _ _ _ _ _ _ _ _ _ => b_Sorts_checkStatement_299 (R := fun S' => S' = kOpenIf (kOpen (kMust S 1 i))) hg (e_Sorts_checkFlow (b_Sorts_checkFlow_0 (fun _ => b_Sorts_checkFlow_44 hg (w_mustBe hg h3 htp hi) (fun v A hv => by
      rw [hv.2]
      exact b_Sorts_checkFlow_50 hg (w_openScope ((kMust_c (by omega) (by omega)).trans h5) hm) (fun A eA => by
        rw [eA]
        exact b_Sorts_checkFlow_55 hg (w_openIf ((kOpen_c (by omega) (by omega)).trans ((kMust_c (by omega) (by omega)).trans h9)) hu) (fun A eA => b_Sorts_checkFlow_59 (b_Sorts_checkFlow_145 ⟨rfl, eA⟩))))) (fun z => absurd z (by decide)) (fun z => absurd z (by decide)) (fun z => absurd z (by decide)) (fun z => absurd z (by decide)) (fun z => absurd z (by decide)) (fun q _ _ _ _ _ => absurd rfl q))) (fun A eA => b_Sorts_checkStatement_305 ⟨rfl, eA⟩))))⟩
theorem g_15 (hg : ip_gk (lg_tbl, vwCl, Gr)) (h : CIx S i sz) (ho : S.1 4 i = 15) (h5 : S.1 39 5 = nI (m + 1)) (hm : m < 31) : kS b t S i = kOpen (kClose S) ∧ CG l Gr n w d S i (kOpen (kClose S)) (i + 1) := by
  have hsz := h.2.1
  have hlt := h.2.2.2
  have hi : i < 4000 := by omega
  have hin : vp_in (nI i) 4000 := vp_in_nI hi (by omega)
  exact ⟨by unfold kS; rw [ho]; rfl, cg_S hg h ho (by decide) (by decide) (by decide) (e_Sorts_checkStatement (b_Sorts_checkStatement_0 hin (fun z => absurd z (by decide)) (fun z => absurd z (by decide)) (fun z => absurd z (by decide)) (fun z => absurd z (by decide)) (fun z => absurd z (by decide)) (fun z => absurd z (by decide)) (fun z => absurd z (by decide)) (fun z => absurd z (by decide)) (fun z => absurd z (by decide)) (fun z => absurd z (by decide)) (fun z => absurd z (by decide)) (fun z => absurd z (by decide)) (fun z => absurd z (by decide)) (fun _ _ _ _ _ _ _ _ _ _ _ _ _ => b_Sorts_checkStatement_299 (R := fun S' => S' = kOpen (kClose S)) hg (e_Sorts_checkFlow (b_Sorts_checkFlow_0 (fun z => absurd z (by decide)) (fun _ => b_Sorts_checkFlow_62 hg (w_closeScope hg h5 hm) (fun A eA => by
      rw [eA]
      exact b_Sorts_checkFlow_66 hg (w_openScope (kClose_5 h5) hm) (fun A eA => b_Sorts_checkFlow_70 (b_Sorts_checkFlow_145 ⟨rfl, eA⟩)))) (fun z => absurd z (by decide)) (fun z => absurd z (by decide)) (fun z => absurd z (by decide)) (fun z => absurd z (by decide)) (fun _ q _ _ _ _ => absurd rfl q))) (fun A eA => b_Sorts_checkStatement_305 ⟨rfl, eA⟩))))⟩
theorem g_16 (hg : ip_gk (lg_tbl, vwCl, Gr)) (h : CIx S i sz) (ho : S.1 4 i = 16) (h39 : S.1 39 5 = nI (m + 1)) (hm : m < 31) (h5 : S.1 5 i = nI hd) (hhd : hd < 4000) (h9 : S.1 39 9 = nI (u + 1)) (hu : u < 31) : kS b t S i = kCloseIf (kClose S) ((kClose S).1 5 i).toNatClampNeg ∧ CG l Gr n w d S i (kCloseIf (kClose S) ((kClose S).1 5 i).toNatClampNeg) (i + 1) := by
  have hsz := h.2.1
  have hlt := h.2.2.2
  have hi : i < 4000 := by omega
  have hin : vp_in (nI i) 4000 := vp_in_nI hi (by omega)
  exact ⟨by unfold kS; rw [ho]; rfl, cg_S hg h ho (by decide) (by decide) (by decide) (e_Sorts_checkStatement (b_Sorts_checkStatement_0 hin (fun z => absurd z (by decide)) (fun z => absurd z (by decide)) (fun z => absurd z (by decide)) (fun z => absurd z (by decide)) (fun z => absurd z (by decide)) (fun z => absurd z (by decide)) (fun z => absurd z (by decide)) (fun z => absurd z (by decide)) (fun z => absurd z (by decide)) (fun z => absurd z (by decide)) (fun z => absurd z (by decide)) (fun z => absurd z (by decide)) (fun z => absurd z (by decide)) (fun _ _ _ _ _ _ _ _ _ _ _ _ _ => b_Sorts_checkStatement_299 (R := fun S' => S' = kCloseIf (kClose S) ((kClose S).1 5 i).toNatClampNeg) hg (e_Sorts_checkFlow (b_Sorts_checkFlow_0 (fun z => absurd z (by decide)) (fun z => absurd z (by decide)) (fun _ => b_Sorts_checkFlow_73 hg (w_closeScope hg h39 hm) (fun A eA => by
      rw [eA]
      exact b_Sorts_checkFlow_77 (R := fun S' => S' = kCloseIf (kClose S) ((kClose S).1 5 i).toNatClampNeg) hg hin (by
        have e : (kClose S).1 5 i = nI hd := (kClose_c (by omega) (by omega)).trans h5
        rw [nI_clamp (n := i) (by omega), e, nI_clamp (by omega)]
        exact w_closeIf hg hhd ((kClose_c (by omega) (by omega)).trans h9) hu) (fun A eA => b_Sorts_checkFlow_90 (b_Sorts_checkFlow_145 ⟨rfl, eA⟩)))) (fun z => absurd z (by decide)) (fun z => absurd z (by decide)) (fun z => absurd z (by decide)) (fun _ _ q _ _ _ => absurd rfl q))) (fun A eA => b_Sorts_checkStatement_305 ⟨rfl, eA⟩))))⟩
theorem g_18 (hg : ip_gk (lg_tbl, vwCl, Gr)) (h : CIx S i sz) (ho : S.1 4 i = 18) (h3 : S.1 39 3 = nI (tp + 1)) (htp : tp < 372) : kS b t S i = kPub (kMust S 0 i) (kTop S) ((kMust S 0 i).1 6 i) ∧ CG l Gr n w d S i (kPub (kMust S 0 i) (kTop S) ((kMust S 0 i).1 6 i)) (i + 1) := by
  have hsz := h.2.1
  have hlt := h.2.2.2
  have hi : i < 4000 := by omega
  have hin : vp_in (nI i) 4000 := vp_in_nI hi (by omega)
  exact ⟨by unfold kS; rw [ho]; rfl, cg_S hg h ho (by decide) (by decide) (by decide) (e_Sorts_checkStatement (b_Sorts_checkStatement_0 hin (fun z => absurd z (by decide)) (fun z => absurd z (by decide)) (fun z => absurd z (by decide)) (fun z => absurd z (by decide)) (fun z => absurd z (by decide)) (fun z => absurd z (by decide)) (fun z => absurd z (by decide)) (fun z => absurd z (by decide)) (fun z => absurd z (by decide)) (fun z => absurd z (by decide)) (fun z => absurd z (by decide)) (fun z => absurd z (by decide)) (fun z => absurd z (by decide)) (fun _ _ _ _ _ _ _ _ _ _ _ _ _ => b_Sorts_checkStatement_299 (R := fun S' => S' = kPub (kMust S 0 i) (kTop S) ((kMust S 0 i).1 6 i)) hg (e_Sorts_checkFlow (b_Sorts_checkFlow_0 (fun z => absurd z (by decide)) (fun z => absurd z (by decide)) (fun z => absurd z (by decide)) (fun _ => b_Sorts_checkFlow_93 hg (w_mustBe hg h3 htp hi) (fun v A hv => by
      rw [hv.1, hv.2]
      exact b_Sorts_checkFlow_100 (R := fun S' => S' = kPub (kMust S 0 i) (kTop S) ((kMust S 0 i).1 6 i)) hg hin (by rw [nI_clamp (by omega)]; exact w_pub hg) (fun A eA => b_Sorts_checkFlow_112 (b_Sorts_checkFlow_145 ⟨rfl, eA⟩)))) (fun z => absurd z (by decide)) (fun z => absurd z (by decide)) (fun _ _ _ q _ _ => absurd rfl q))) (fun A eA => b_Sorts_checkStatement_305 ⟨rfl, eA⟩))))⟩
theorem g_19 (hg : ip_gk (lg_tbl, vwCl, Gr)) (h : CIx S i sz) (ho : S.1 4 i = 19) (h5 : S.1 39 5 = nI m) (hm : m < 31) (h11 : S.1 8 11 = nI u) (hu : u < 800) : kS b t S i = kShow (kOpen S) ((kOpen S).1 5 i) ∧ CG l Gr n w d S i (kShow (kOpen S) ((kOpen S).1 5 i)) (i + 1) := by
  have hsz := h.2.1
  have hlt := h.2.2.2
  have hi : i < 4000 := by omega
  have hin : vp_in (nI i) 4000 := vp_in_nI hi (by omega)
  exact ⟨by unfold kS; rw [ho]; rfl, cg_S hg h ho (by decide) (by decide) (by decide) (e_Sorts_checkStatement (b_Sorts_checkStatement_0 hin (fun z => absurd z (by decide)) (fun z => absurd z (by decide)) (fun z => absurd z (by decide)) (fun z => absurd z (by decide)) (fun z => absurd z (by decide)) (fun z => absurd z (by decide)) (fun z => absurd z (by decide)) (fun z => absurd z (by decide)) (fun z => absurd z (by decide)) (fun z => absurd z (by decide)) (fun z => absurd z (by decide)) (fun z => absurd z (by decide)) (fun z => absurd z (by decide)) (fun _ _ _ _ _ _ _ _ _ _ _ _ _ => b_Sorts_checkStatement_299 (R := fun S' => S' = kShow (kOpen S) ((kOpen S).1 5 i)) hg (e_Sorts_checkFlow (b_Sorts_checkFlow_0 (fun z => absurd z (by decide)) (fun z => absurd z (by decide)) (fun z => absurd z (by decide)) (fun z => absurd z (by decide)) (fun _ => b_Sorts_checkFlow_115 hg (w_openScope h5 hm) (fun A eA => by
      rw [eA]
      exact b_Sorts_checkFlow_119 (R := fun S' => S' = kShow (kOpen S) ((kOpen S).1 5 i)) hg hin (by rw [nI_clamp (by omega)]; exact w_show ((kOpen_c (by omega) (by omega)).trans h11) hu) (fun A eA => b_Sorts_checkFlow_135 (b_Sorts_checkFlow_145 ⟨rfl, eA⟩)))) (fun z => absurd z (by decide)) (fun _ _ _ _ q _ => absurd rfl q))) (fun A eA => b_Sorts_checkStatement_305 ⟨rfl, eA⟩))))⟩
theorem g_20 (hg : ip_gk (lg_tbl, vwCl, Gr)) (h : CIx S i sz) (ho : S.1 4 i = 20) (h5 : S.1 39 5 = nI (m + 1)) (hm : m < 31) : kS b t S i = kClose S ∧ CG l Gr n w d S i (kClose S) (i + 1) := by
  have hsz := h.2.1
  have hlt := h.2.2.2
  have hi : i < 4000 := by omega
  have hin : vp_in (nI i) 4000 := vp_in_nI hi (by omega)
  exact ⟨by unfold kS; rw [ho]; rfl, cg_S hg h ho (by decide) (by decide) (by decide) (e_Sorts_checkStatement (b_Sorts_checkStatement_0 hin (fun z => absurd z (by decide)) (fun z => absurd z (by decide)) (fun z => absurd z (by decide)) (fun z => absurd z (by decide)) (fun z => absurd z (by decide)) (fun z => absurd z (by decide)) (fun z => absurd z (by decide)) (fun z => absurd z (by decide)) (fun z => absurd z (by decide)) (fun z => absurd z (by decide)) (fun z => absurd z (by decide)) (fun z => absurd z (by decide)) (fun z => absurd z (by decide)) (fun _ _ _ _ _ _ _ _ _ _ _ _ _ => b_Sorts_checkStatement_299 (R := fun S' => S' = kClose S) hg (e_Sorts_checkFlow (b_Sorts_checkFlow_0 (fun z => absurd z (by decide)) (fun z => absurd z (by decide)) (fun z => absurd z (by decide)) (fun z => absurd z (by decide)) (fun z => absurd z (by decide)) (fun _ => b_Sorts_checkFlow_138 hg (w_closeScope hg h5 hm) (fun A eA => b_Sorts_checkFlow_142 (b_Sorts_checkFlow_145 ⟨rfl, eA⟩))) (fun _ _ _ _ _ q => absurd rfl q))) (fun A eA => b_Sorts_checkStatement_305 ⟨rfl, eA⟩))))⟩
theorem g_op (hg : ip_gk (lg_tbl, vwCl, Gr)) (h : CIx S i sz) {o : Nat} (o1 : 1 ≤ o) (o2 : o ≤ 18) (ho : S.1 4 i = nI (37 + o)) (h3 : S.1 39 3 = nI (tp + 2)) (htp : tp + 1 < 372) : kS b t S i = kOpr S i (nI (37 + o)) ∧ CG l Gr n w d S i (kOpr S i (nI (37 + o))) (i + 1) := by
  have hsz := h.2.1
  have hlt := h.2.2.2
  have hi : i < 4000 := by omega
  have ne : ∀ k : Nat, k < 38 → ¬ nI (37 + o) = nI k := fun k hk y => absurd ((nI_eq (by omega) (by omega)).mp y) (by omega)
  have n2 := ne 2 (by omega)
  have le : (38 : Int32) ≤ nI (37 + o) := nI_le (a := 38) (b := 37 + o) (by omega) (by omega)
  refine ⟨?_, cg_O hg h ho (nI_lt (a := 20) (b := 37 + o) (by omega) (by omega)) (nI_lt (a := 33) (b := 37 + o) (by omega) (by omega)) le (w_checkOperator hg h3 htp hi)⟩
  unfold kS
  rw [ho]
  rw [if_neg (fun y => y.elim (ne 2 (by omega)) (ne 4 (by omega))), if_neg (show ¬ nI (37 + o) = 3 from ne 3 (by omega)), if_neg (show ¬ nI (37 + o) = 5 from ne 5 (by omega)), if_neg (show ¬ nI (37 + o) = 6 from ne 6 (by omega)), if_neg (show ¬ nI (37 + o) = 7 from ne 7 (by omega)), if_neg (show ¬ nI (37 + o) = 8 from ne 8 (by omega)), if_neg (show ¬ nI (37 + o) = 9 from ne 9 (by omega)), if_neg (show ¬ nI (37 + o) = 11 from ne 11 (by omega)), if_neg (fun y => y.elim (ne 10 (by omega)) (ne 12 (by omega))), if_neg (show ¬ nI (37 + o) = 13 from ne 13 (by omega)), if_neg (show ¬ nI (37 + o) = 17 from ne 17 (by omega)), if_neg (show ¬ nI (37 + o) = 14 from ne 14 (by omega)), if_neg (show ¬ nI (37 + o) = 15 from ne 15 (by omega)), if_neg (show ¬ nI (37 + o) = 16 from ne 16 (by omega)), if_neg (fun y => y.elim (ne 18 (by omega)) (ne 33 (by omega))), if_neg (show ¬ nI (37 + o) = 19 from ne 19 (by omega)), if_neg (show ¬ nI (37 + o) = 20 from ne 20 (by omega)), if_neg (show ¬ nI (37 + o) = 22 from ne 22 (by omega)), if_neg (show ¬ nI (37 + o) = 23 from ne 23 (by omega)), if_neg (show ¬ nI (37 + o) = 24 from ne 24 (by omega)), if_neg (show ¬ nI (37 + o) = 25 from ne 25 (by omega)), if_neg (show ¬ nI (37 + o) = 28 from ne 28 (by omega)), if_neg (show ¬ nI (37 + o) = 26 from ne 26 (by omega)), if_neg (fun y => y.elim (ne 27 (by omega)) (ne 30 (by omega))), if_neg (show ¬ nI (37 + o) = 29 from ne 29 (by omega)), if_neg (show ¬ nI (37 + o) = 31 from ne 31 (by omega)), if_neg (show ¬ nI (37 + o) = 32 from ne 32 (by omega)), if_neg (show ¬ nI (37 + o) = 37 from ne 37 (by omega)), if_neg (fun y => y.elim (ne 34 (by omega)) (fun y => y.elim (ne 35 (by omega)) (ne 36 (by omega)))), if_pos le]
end SK7
