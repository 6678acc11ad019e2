/-! statements: depth, small methods of both -/
theorem ip_up {l : Launch} {G : ip_G} {M : ip_M} {d d' pc : Nat} {L : zL} {st : List Value} {h : ip_H} {r : Option Value × ip_H} (hd : d ≤ d') (k : ip_Rn l G M d pc L st h r) : ip_Rn l G M d' pc L st h r :=
  ⟨k.1, fun p e R s m args below meth c Q H locs cells slots ls Cx hdp hlo hce hsl hL hSt hS kt =>
    k.2 p e R s m args below meth c Q H locs cells slots ls Cx (Nat.le_trans hd hdp) (Nat.le_trans (Nat.mul_le_mul_left 41 hd) hlo) hce hsl hL hSt hS kt⟩
theorem zW_up {l : Launch} {Gr : zG} {zc : zC} {K : Nat} {M : ip_M} {d d' pc : Nat} {L : zL} {st : List Value} {S : zS} {Q : Option Value → zS → Prop} (hd : d ≤ d') (k : zW l Gr zc K M d pc L st S Q) : zW l Gr zc K M d' pc L st S Q := by
  obtain ⟨v, S2, q, r⟩ := k
  exact ⟨v, S2, q, ip_up hd r⟩
section SD
variable {l : Launch} {Gr : zG} {n w : Nat} {d : Nat} {b : Nat → Int32} {t p i ws dp p' i' q j m N X u k : Nat} {S S' T T' : zS}
theorem CS_k (h : CS b t p i ws S) : S.1 38 2 = tk b t p := h.2.2.2.1
theorem CS_s (h : CS b t p i ws S) : S.1 38 3 = nI p := h.2.2.1
theorem CS_f (h : CS b t p i ws S) : S.1 3 5 = 0 := h.2.2.2.2.2.2.1
theorem CS_n (h : CS b t p i ws S) : S.1 3 4 = nI i := h.2.2.2.2.2.1
theorem CS_p (h : CS b t p i ws S) : p ≤ t := h.2.2.2.2.2.2.2.2.1.1
theorem CS_t (h : CS b t p i ws S) : t ≤ 4000 := h.2.2.2.2.2.2.2.2.2
theorem MC_p2 (h : MC b t q j dp m N T) : q ≤ t := h.1.2.2.2.1
theorem MC_t (h : MC b t q j dp m N T) : t ≤ 4000 := h.1.2.2.2.2
theorem MC_6 (h : MC b t q j dp m N T) : T.1 73 6 = nI q := h.1.2.2.1
theorem MC_f (h : MC b t q j dp m N T) : T.1 73 7 = 0 := h.2.1
theorem MC_13 (h : MC b t q j dp m N T) : T.1 73 13 = nI j := h.2.2.1
theorem MC_19 (h : MC b t q j dp m N T) : T.1 73 19 = nI dp := h.2.2.2.1
theorem MC_20 (h : MC b t q j dp m N T) : T.1 73 20 = nI m := h.2.2.2.2.1
theorem MC_N (h : MC b t q j dp m N T) : nmO b t T N := h.2.2.2.2.2
theorem MC_x {k : Nat} {v : Int32} (h : MC b t q j dp m N T) (hk : k ≠ 5 ∧ k ≠ 6 ∧ k ≠ 7 ∧ k ≠ 9 ∧ k ≠ 13 ∧ k ≠ 19 ∧ k ≠ 20) : MC b t q j dp m N (zi T 73 k v) := by
  obtain ⟨a, h1, h2, h3, h4, h5⟩ := h
  exact ⟨mA_zi a (by omega) (by omega), by rw [zi_k (by omega)]; exact h1, by rw [zi_k (by omega)]; exact h2, by rw [zi_k (by omega)]; exact h3, by rw [zi_k (by omega)]; exact h4, nmO_zi h5 (by omega)⟩
/-- the reference reads one EXPR, at any depth -/
theorem x_okD {D : Nat} (hD : d + 9 ≤ D) (hg : ip_gk (lg_tbl, vwCl, Gr)) (htx : ∀ k, k < t → tx (b k)) (hdp : dp ≤ 30) (hE : EOK l Gr n w d b t S S' p i ws dp p' i') (hM : MC b t q j dp 0 N T) (hgq : gp b t q = p) (hb : bud b t X j 0 N q) : ∃ Y j' N', zMv l Gr (zc n w) 168 M_Mo_expression (D + 1) [.ref 105] T (fun A => A = Y) ∧ MC b t p' j' dp 0 N' Y ∧ MK b t T Y j 0 ∧ bud b t X j' 0 N' p' ∧ gX w S' Y (nid b t Y) p i i' j j' := by
  have hH : HE b t q j dp 0 N X 0 p T := ⟨hM, hgq, hb, Nat.le_refl _, Nat.zero_le _, fun k hk => absurd hk (Nat.not_lt_zero k), Or.inl rfl, Or.inl rfl⟩
  obtain ⟨T', Y, q', j1, d1, m1, j', N', rx, hM1, hgp, h51, hY, hK, hbY, hX, -⟩ := E0_of hg hdp hH (hE.2.2.2.2.2.2 T q j 0 N X 0 hH)
  refine ⟨Y, j', N', ?_, hY, hK, hbY, hX⟩
  have ex := rx_e (d := d) (T' := Y) hg htx hM1 hgp hE.2.2.2.2.1 hE.2.2.2.2.2.1 (e_Mo_closes (h51 _ (b_Mo_closes_51 (fun z => absurd hY.2.2.2.2.1 z) (fun _ => b_Mo_closes_59 ⟨_, rfl, Or.inl rfl, rfl, rfl⟩))))
  have fin : zi Y 73 20 0 = Y := zi_id hY.2.2.2.2.1
  refine e_Mo_expression (zW_up (d := d + 10) (by omega) (b_Mo_expression_0 ?_))
  rw [hM.2.2.2.2.1]
  exact RX_EX rx ex _ (by rw [fin]; exact ⟨rfl, rfl⟩)
theorem x_badD {D : Nat} (hD : d + 9 ≤ D) {f pl : Int32} (hE : EBD l Gr n w d b t S S' p dp f pl) (hM : MC b t q j dp 0 N T) (hgq : gp b t q = p) (hb : bud b t X j 0 N q) : ∃ Y, zMv l Gr (zc n w) 168 M_Mo_expression (D + 1) [.ref 105] T (fun A => A = Y) ∧ Y.1 73 7 = f ∧ Y.1 73 8 = pl ∧ MK b t T Y 0 0 ∧ Y.1 73 20 = nI 0 := by
  have hH : HE b t q j dp 0 N X 0 p T := ⟨hM, hgq, hb, Nat.le_refl _, Nat.zero_le _, fun k hk => absurd hk (Nat.not_lt_zero k), Or.inl rfl, Or.inl rfl⟩
  obtain ⟨T', ex, h7, h8, hK⟩ := hE.2 T q j 0 N X 0 hH
  refine ⟨zi T' 73 20 0, ?_, by rw [zi_k (by decide)]; exact h7, by rw [zi_k (by decide)]; exact h8, MK_tr hK (MK_zi (by omega)), zi_v⟩
  refine e_Mo_expression (zW_up (d := d + 10) (by omega) (b_Mo_expression_0 ?_))
  rw [hM.2.2.2.2.1]
  exact ex _ ⟨rfl, rfl⟩
/-- expression() behind a FAULT does nothing -/
theorem x_n {D : Nat} (h7 : ¬ T.1 73 7 = 0) : zMv l Gr (zc n w) 168 M_Mo_expression (D + 1) [.ref 105] T (fun A => A = T) :=
  e_Mo_expression (b_Mo_expression_0 (b_Mo_expression_9 (fun _ => b_Mo_expression_259 ⟨rfl, zi_id rfl⟩) (fun z => absurd z h7)))
/-- the words behind a kept word -/
theorem te_w {c : Int32} {K : List Int32} (htx : ∀ k, k < t → tx (b k)) (hp : p ≤ t) (hK : ∀ s : List Int32, wk s = c ↔ s = K) (h0 : ¬ K = []) (hc : 127 < c) (h : tk b t p = c) : te b t p = p + K.length := by
  have hc' : 127 < tk b t p := by rw [h]; exact hc
  obtain ⟨e, hl, -⟩ := te_n htx hp (Or.inr hc')
  have := (tk_w htx hp hK h0 hc).mpr h
  have hlen := wd_len (b := b) (p := p) (e := we b t p)
  rw [this] at hlen
  omega
theorem mF_MK {f x : Int32} : MK b t T (mF T f x) j m := MK_mF
theorem wm_numberF (hg : ip_gk (lg_tbl, vwCl, Gr)) {x1 x3 : Int64} (h : mA b t q T) (hgq : gp b t q = p) (h7 : T.1 73 7 = 0) (hd : ¬ isd (lk b t p)) : zMv l Gr (zc n w) 168 M_Mo_number (d + 2) [.ref 105, .long x1, .long x3] T (fun A => A = mF (zi T 73 6 (nI p)) 1 (nI p)) := by
  have hpt : p ≤ t := by rw [← hgq]; exact gp_le h.2.2.2.1
  refine e_Mo_number (b_Mo_number_0 hg (wm_gap hg h) (fun S1 e1 => ?_))
  rw [hgq] at e1
  have m1 : mA b t p S1 := by rw [e1]; exact mA_at h hpt
  refine b_Mo_number_4 hg (wm_k0 m1) (fun v S' hv => ?_)
  rw [hv.1, hv.2]
  refine b_Mo_number_15 hg wm_isDigit (fun v S' hv => ?_)
  rw [hv.1, hv.2, if_neg hd]
  refine b_Mo_number_18 (fun z => absurd rfl z) (fun _ => b_Mo_number_21 hg (wm_fail (by rw [e1, zi_k (by decide)]; exact h7)) (fun A e => b_Mo_number_30 ⟨rfl, ?_⟩))
  rw [e, m1.2.2.1, e1]
theorem wm_sortWord (hg : ip_gk (lg_tbl, vwCl, Gr)) (ho : ip_old (lg_tbl, vwCl, Gr)) (htx : ∀ k, k < t → tx (b k)) (h : mA b t q T) (hgq : gp b t q = p) (h7 : T.1 73 7 = 0) : zMv l Gr (zc n w) 168 M_Mo_sortWord (d + 5) [.ref 105] T (fun A => ((tk b t p = 209 ∨ tk b t p = 210) ∧ A = zi (zi (zi T 73 6 (nI p)) 73 32 (if tk b t p = 210 then 1 else 0)) 73 6 (nI (p + 3))) ∨ (¬ (tk b t p = 209 ∨ tk b t p = 210) ∧ A = mF (zi (zi T 73 6 (nI p)) 73 32 0) 1 (nI p))) := by
  have hpt : p ≤ t := by rw [← hgq]; exact gp_le h.2.2.2.1
  refine e_Mo_sortWord (b_Mo_sortWord_0 hg (wm_gap hg h) (fun S1 e1 => ?_))
  rw [hgq] at e1
  have m1 : mA b t p S1 := by rw [e1]; exact mA_at h hpt
  refine b_Mo_sortWord_4 hg ho (wm_isW10 hg ho m1) (fun v A hv => ?_)
  rw [hv.1, hv.2]
  have i10 := tk_w htx hpt (K := kw10) (c := 210) (fun s => wk_10) (by decide) (by decide)
  have i9 := tk_w htx hpt (K := kw9) (c := 209) (fun s => wk_9) (by decide) (by decide)
  have fin : ∀ r : Int32, r = (if tk b t p = 210 then 1 else 0) → zW l Gr (zc n w) 168 M_Mo_sortWord (d + 5) 20 [some (.ref 105)] [.int r, .ref 105] S1 (fun v A => v = none ∧ (((tk b t p = 209 ∨ tk b t p = 210) ∧ A = zi (zi (zi T 73 6 (nI p)) 73 32 (if tk b t p = 210 then 1 else 0)) 73 6 (nI (p + 3))) ∨ (¬ (tk b t p = 209 ∨ tk b t p = 210) ∧ A = mF (zi (zi T 73 6 (nI p)) 73 32 0) 1 (nI p)))) := fun r er => by
    have m2 : mA b t p (zi S1 73 32 r) := mA_zi m1 (by decide) (by decide)
    refine b_Mo_sortWord_20 hg ho (wm_isW9 hg ho m2) (fun v A hv => ?_)
    rw [hv.1, hv.2]
    have ok : (tk b t p = 209 ∨ tk b t p = 210) → zW l Gr (zc n w) 168 M_Mo_sortWord (d + 5) 53 [some (.ref 105)] [] (zi S1 73 32 r) (fun v A => v = none ∧ (((tk b t p = 209 ∨ tk b t p = 210) ∧ A = zi (zi (zi T 73 6 (nI p)) 73 32 (if tk b t p = 210 then 1 else 0)) 73 6 (nI (p + 3))) ∨ (¬ (tk b t p = 209 ∨ tk b t p = 210) ∧ A = mF (zi (zi T 73 6 (nI p)) 73 32 0) 1 (nI p)))) := fun y => by
      refine b_Mo_sortWord_53 ⟨rfl, Or.inl ⟨y, ?_⟩⟩
      rw [m2.2.2.1, e1, er]
      congr 1
      exact nI_add p 3
    by_cases z9 : tk b t p = 209
    · rw [if_pos (i9.mpr z9)]
      exact b_Mo_sortWord_30 (fun _ => ok (Or.inl z9)) (fun z => absurd z (by decide))
    · rw [if_neg (fun y => z9 (i9.mp y))]
      refine b_Mo_sortWord_30 (fun z => absurd rfl z) (fun _ => b_Mo_sortWord_33 hg ho (wm_isW10 hg ho m2) (fun v A hv => ?_))
      rw [hv.1, hv.2]
      by_cases z10 : tk b t p = 210
      · rw [if_pos (i10.mpr z10)]
        exact b_Mo_sortWord_40 (fun _ => ok (Or.inr z10)) (fun z => absurd z (by decide))
      · rw [if_neg (fun y => z10 (i10.mp y))]
        refine b_Mo_sortWord_40 (fun z => absurd rfl z) (fun _ => b_Mo_sortWord_43 hg (wm_fail (by rw [zi_k (by decide), e1, zi_k (by decide)]; exact h7)) (fun A e => b_Mo_sortWord_52 ⟨rfl, Or.inr ⟨fun y => y.elim z9 z10, ?_⟩⟩))
        rw [e, m2.2.2.1, e1, er, if_neg z10]
  by_cases z10 : tk b t p = 210
  · rw [if_pos (i10.mpr z10)]
    exact b_Mo_sortWord_12 (fun z => absurd z (by decide)) (fun _ => b_Mo_sortWord_15 (fin 1 (by rw [if_pos z10])))
  · rw [if_neg (fun y => z10 (i10.mp y))]
    exact b_Mo_sortWord_12 (fun _ => b_Mo_sortWord_19 (fin 0 (by rw [if_neg z10]))) (fun z => absurd rfl z)
theorem wm_kwTo (hg : ip_gk (lg_tbl, vwCl, Gr)) (ho : ip_old (lg_tbl, vwCl, Gr)) (htx : ∀ k, k < t → tx (b k)) (h : mA b t q T) (hgq : gp b t q = p) (h7 : T.1 73 7 = 0) : zMv l Gr (zc n w) 168 M_Mo_keyword (d + 5) [.ref 105, .ref 9] T (fun A => (tk b t p = 205 ∧ A = zi T 73 6 (nI (p + 2))) ∨ (¬ tk b t p = 205 ∧ A = mF (zi T 73 6 (nI p)) 1 (nI p))) := by
  have hpt : p ≤ t := by rw [← hgq]; exact gp_le h.2.2.2.1
  refine e_Mo_keyword_r9 (b_Mo_keyword_r9_0 hg (wm_gap hg h) (fun S1 e1 => ?_))
  rw [hgq] at e1
  have m1 : mA b t p S1 := by rw [e1]; exact mA_at h hpt
  have iw := tk_w htx hpt (K := kw5) (c := 205) (fun s => wk_5) (by decide) (by decide)
  refine b_Mo_keyword_r9_4 hg (wm_isW5 hg ho m1) (fun v A hv => ?_)
  rw [hv.1, hv.2]
  by_cases z : tk b t p = 205
  · rw [if_pos (iw.mpr z)]
    refine b_Mo_keyword_r9_9 (fun _ => b_Mo_keyword_r9_22 hg ho ⟨rfl, Or.inl ⟨z, ?_⟩⟩) (fun y => absurd y (by decide))
    rw [m1.2.2.1, e1, zi_zi]
    congr 1
    exact nI_add p 2
  · rw [if_neg (fun y => z (iw.mp y))]
    refine b_Mo_keyword_r9_9 (fun y => absurd rfl y) (fun _ => b_Mo_keyword_r9_12 hg (wm_fail (by rw [e1, zi_k (by decide)]; exact h7)) (fun A e => b_Mo_keyword_r9_21 ⟨rfl, Or.inr ⟨z, ?_⟩⟩))
    rw [e, m1.2.2.1, e1]
theorem wm_kwOf (hg : ip_gk (lg_tbl, vwCl, Gr)) (ho : ip_old (lg_tbl, vwCl, Gr)) (htx : ∀ k, k < t → tx (b k)) (h : mA b t q T) (hgq : gp b t q = p) (h7 : T.1 73 7 = 0) : zMv l Gr (zc n w) 168 M_Mo_keyword (d + 5) [.ref 105, .ref 5] T (fun A => (tk b t p = 201 ∧ A = zi T 73 6 (nI (p + 2))) ∨ (¬ tk b t p = 201 ∧ A = mF (zi T 73 6 (nI p)) 1 (nI p))) := by
  have hpt : p ≤ t := by rw [← hgq]; exact gp_le h.2.2.2.1
  refine e_Mo_keyword_r5 (b_Mo_keyword_r5_0 hg (wm_gap hg h) (fun S1 e1 => ?_))
  rw [hgq] at e1
  have m1 : mA b t p S1 := by rw [e1]; exact mA_at h hpt
  have iw := tk_w htx hpt (K := kw1) (c := 201) (fun s => wk_1) (by decide) (by decide)
  refine b_Mo_keyword_r5_4 hg (wm_isW1 hg ho m1) (fun v A hv => ?_)
  rw [hv.1, hv.2]
  by_cases z : tk b t p = 201
  · rw [if_pos (iw.mpr z)]
    refine b_Mo_keyword_r5_9 (fun _ => b_Mo_keyword_r5_22 hg ho ⟨rfl, Or.inl ⟨z, ?_⟩⟩) (fun y => absurd y (by decide))
    rw [m1.2.2.1, e1, zi_zi]
    congr 1
    exact nI_add p 2
  · rw [if_neg (fun y => z (iw.mp y))]
    refine b_Mo_keyword_r5_9 (fun y => absurd rfl y) (fun _ => b_Mo_keyword_r5_12 hg (wm_fail (by rw [e1, zi_k (by decide)]; exact h7)) (fun A e => b_Mo_keyword_r5_21 ⟨rfl, Or.inr ⟨z, ?_⟩⟩))
    rw [e, m1.2.2.1, e1]
/-- sign(c), told by the class's word -/
theorem wm_sg (hg : ip_gk (lg_tbl, vwCl, Gr)) (htx : ∀ k, k < t → tx (b k)) {c : Int32} (h1 : ¬ isn c) (h2 : 12 < c) (h3 : c < 127) (h : mA b t q T) (hgq : gp b t q = p) (hk : tk b t p = c) : zMv l Gr (zc n w) 168 M_Mo_sign (d + 3) [.ref 105, .int c] T (fun A => A = zi T 73 6 (nI (p + 1))) :=
  wm_sign hg h hgq ((tk_sg htx (by rw [← hgq]; exact gp_le h.2.2.2.1) h1 h2 h3).mpr hk)
theorem wm_sgF (hg : ip_gk (lg_tbl, vwCl, Gr)) (htx : ∀ k, k < t → tx (b k)) {c : Int32} (h1 : ¬ isn c) (h2 : 12 < c) (h3 : c < 127) (h : mA b t q T) (hgq : gp b t q = p) (h7 : T.1 73 7 = 0) (hk : ¬ tk b t p = c) : zMv l Gr (zc n w) 168 M_Mo_sign (d + 3) [.ref 105, .int c] T (fun A => A = mF (zi T 73 6 (nI p)) 1 (nI p)) :=
  wm_signF hg h hgq h7 (fun y => hk ((tk_sg htx (by rw [← hgq]; exact gp_le h.2.2.2.1) h1 h2 h3).mp y))
/-- sign(c) behind a FAULT -/
theorem wm_sgN (hg : ip_gk (lg_tbl, vwCl, Gr)) {c : Int32} (h : mA b t q T) (h7 : ¬ T.1 73 7 = 0) : ∃ q', zMv l Gr (zc n w) 168 M_Mo_sign (d + 3) [.ref 105, .int c] T (fun A => A = zi T 73 6 (nI q')) := by
  have m1 : mA b t (gp b t q) (zi T 73 6 (nI (gp b t q))) := mA_at h (gp_le h.2.2.2.1)
  by_cases z : sg b t (gp b t q) c
  · refine ⟨gp b t q + 1, wm_sign hg h rfl z⟩
  · refine ⟨gp b t q, e_Mo_sign (b_Mo_sign_0 hg (wm_gap hg h) (fun S1 e1 => ?_))⟩
    rw [e1]
    refine b_Mo_sign_4 hg (wm_isSign hg m1) (fun v A hv => ?_)
    rw [hv.1, hv.2, if_neg z]
    refine b_Mo_sign_9 (fun y => absurd rfl y) (fun _ => b_Mo_sign_12 hg (wm_failN (by rw [zi_k (by decide)]; exact h7)) (fun A e => b_Mo_sign_21 ⟨rfl, e⟩))
/-- openBlock: it opens; else a FAULT -/
def oB (T : zS) (p dp kk : Nat) (x1 x2 : Int32) : zS := zi (zi (zi (zi (zi (zi T 73 6 (nI p)) 73 19 (nI (dp + 1))) 73 6 (nI (p + 1))) 87 kk x1) 88 kk x2) 73 26 (nI (kk + 1))
theorem wm_open (hg : ip_gk (lg_tbl, vwCl, Gr)) (htx : ∀ k, k < t → tx (b k)) {x1 x2 : Int32} (h : MC b t q j dp m N T) (hgq : gp b t q = p) (hk : tk b t p = 123) (hd : dp < 30) (h26 : T.1 73 26 = nI k) (hkk : k < 70) : zMv l Gr (zc n w) 168 M_Mo_openBlock (d + 3) [.ref 105, .int x1, .int x2] T (fun A => A = oB T p dp k x1 x2) := by
  have h1 := MC_p h hgq
  refine e_Mo_openBlock (b_Mo_openBlock_0 hg (wm_gap hg h.1) (fun A e => ?_))
  rw [e, hgq]
  refine b_Mo_openBlock_4 hg (wm_isSign hg h1.1) (fun v A hv => ?_)
  rw [hv.1, hv.2, if_pos ((tk_sg htx (MC_p2 h1) (by decide) (by decide) (by decide)).mpr hk)]
  refine b_Mo_openBlock_10 (fun _ => b_Mo_openBlock_23 hg (wm_deeper hg (MC_19 h1) hd) (fun A e => ?_)) (fun z => absurd z (by decide))
  rw [e]
  have g26 : (zi (zi T 73 6 (nI p)) 73 19 (nI (dp + 1))).1 73 26 = nI k := by rw [zi_k (by decide), zi_k (by decide)]; exact h26
  have g6 : (zi (zi T 73 6 (nI p)) 73 19 (nI (dp + 1))).1 73 6 = nI p := by rw [zi_k (by decide)]; exact zi_v
  refine b_Mo_openBlock_31 (by rw [g26]; exact vp_in_nI hkk (by omega)) ⟨rfl, ?_⟩
  rw [g26, g6, nI_clamp (by omega), nI_1, nI_1]
  rfl
theorem wm_openF (hg : ip_gk (lg_tbl, vwCl, Gr)) (htx : ∀ k, k < t → tx (b k)) {x1 x2 : Int32} (h : MC b t q j dp m N T) (hgq : gp b t q = p) (hdp : dp ≤ 30) (hk : ¬ (tk b t p = 123 ∧ dp < 30)) (h26 : T.1 73 26 = nI k) (hkk : k < 70) : ∃ Y, zMv l Gr (zc n w) 168 M_Mo_openBlock (d + 3) [.ref 105, .int x1, .int x2] T (fun A => A = Y) ∧ Y.1 73 7 = (if tk b t p = 123 then 3 else 1) ∧ Y.1 73 8 = nI p ∧ PK b t T Y j k := by
  have h1 := MC_p h hgq
  by_cases z : tk b t p = 123
  · have e30 : dp = 30 := by
      by_cases y : dp < 30
      · exact absurd ⟨z, y⟩ hk
      · omega
    subst e30
    rw [if_pos z]
    obtain ⟨Z, eZ⟩ : ∃ Z, Z = zi (mF (zi T 73 6 (nI p)) 3 (nI p)) 73 19 (nI 31) := ⟨_, rfl⟩
    have g26 : Z.1 73 26 = nI k := by rw [eZ, zi_k (by decide)]; unfold mF; rw [zi_k (by decide), zi_k (by decide), zi_k (by decide)]; exact h26
    have g7 : Z.1 73 7 = 3 := by rw [eZ, zi_k (by decide)]; exact mF_f.1
    have g8 : Z.1 73 8 = nI p := by rw [eZ, zi_k (by decide)]; exact mF_f.2
    refine ⟨zi (zi (zi (zi Z 73 6 (Z.1 73 6 + 1)) 87 k x1) 88 k x2) 73 26 (nI (k + 1)), ?_, by rw [zi_k (by decide), zi_c (by decide), zi_c (by decide), zi_k (by decide)]; exact g7, by rw [zi_k (by decide), zi_c (by decide), zi_c (by decide), zi_k (by decide)]; exact g8, ?_⟩
    · refine e_Mo_openBlock (b_Mo_openBlock_0 hg (wm_gap hg h.1) (fun A e => ?_))
      rw [e, hgq]
      refine b_Mo_openBlock_4 hg (wm_isSign hg h1.1) (fun v A hv => ?_)
      rw [hv.1, hv.2, if_pos ((tk_sg htx (MC_p2 h1) (by decide) (by decide) (by decide)).mpr z)]
      refine b_Mo_openBlock_10 (fun _ => b_Mo_openBlock_23 hg (wm_deeperF hg (MC_19 h1) (MC_f h1)) (fun A e => ?_)) (fun z => absurd z (by decide))
      rw [MC_6 h1] at e
      rw [e, ← eZ]
      refine b_Mo_openBlock_31 (by rw [g26]; exact vp_in_nI hkk (by omega)) ⟨rfl, ?_⟩
      rw [g26, nI_clamp (by omega), nI_1]
    · rw [eZ]
      exact PK_tr (PK_tr (PK_tr (PK_tr (PK_tr (PK_tr (PK_zi (by omega)) PK_mF) (PK_zi (by omega))) (PK_zi (by omega))) (PK_zi (by omega))) (PK_zi (by omega))) (PK_zi (by omega))
  · rw [if_neg z]
    refine ⟨mF (zi T 73 6 (nI p)) 1 (nI p), ?_, mF_f.1, mF_f.2, PK_tr (PK_zi (by omega)) PK_mF⟩
    refine e_Mo_openBlock (b_Mo_openBlock_0 hg (wm_gap hg h.1) (fun A e => ?_))
    rw [e, hgq]
    refine b_Mo_openBlock_4 hg (wm_isSign hg h1.1) (fun v A hv => ?_)
    rw [hv.1, hv.2, if_neg (fun y => z ((tk_sg htx (MC_p2 h1) (by decide) (by decide) (by decide)).mp y))]
    refine b_Mo_openBlock_10 (fun y => absurd rfl y) (fun _ => b_Mo_openBlock_13 hg (wm_fail (MC_f h1)) (fun A e => b_Mo_openBlock_22 ⟨rfl, ?_⟩))
    rw [e, MC_6 h1]
end SD
