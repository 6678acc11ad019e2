/-! how operands begin and end on the reference's side -/
section FO
variable {l : Launch} {Gr : zG} {n w : Nat} {d : Nat} {b : Nat → Int32} {t p i ws dp p' i' q j m N X u : Nat} {S S' T T' : zS}
/-- an operand that closes: the signs settle behind it -/
theorem fo_2 (hg : ip_gk (lg_tbl, vwCl, Gr)) (htx : ∀ k, k < t → tx (b k)) (h : HF b t q j dp m N X u p T) {Z : zS} {q1 j1 d1 m1 N1 p1 q' jz N' : Nat} (rx : RX l Gr n w d T 1 T' 0) (hM : MC b t q1 j1 d1 m1 N1 T') (hg1 : gp b t q1 = p1) (ho : okn (tk b t p1) = 0) (h63 : ¬ tk b t p1 = 63)
    (hc : ∀ Q : Option Value → zS → Prop, Q (some (.int 1)) (mSg u Z jz dp m) → zW l Gr (zc n w) 168 M_Mo_closes (d + 9) 0 [some (.ref 105), some (.int 0), none, none, none, none, none] [] (zi T' 73 6 (nI p1)) Q)
    (hZ : MC b t q' jz dp m N' Z) (hK : MK b t T Z j m) (hX : gX w S' Z (nid b t Z) p i i' j jz) (h25 : Z.1 73 25 = 0) (hgp : gp b t q' = p') (hb : bud b t X jz m N' q') : FT l Gr n w d b t S' T p i p' i' j dp m X u := by
  obtain ⟨hC, hgq, hbd, hum, hud, hu, hb2⟩ := h
  have b1 := hb.1
  have b2 := hb.2.1
  have hMK := mSg_MK (b := b) (t := t) (j0 := jz) (m0 := m) u Z jz dp m (Nat.le_refl _)
  have hbx := gX_bnd hX
  have rx2 := rx_cl (d := d) (T' := mSg u Z jz dp m) hg htx hM hg1 ho h63 (e_Mo_closes (hc _ ⟨_, rfl, Or.inr rfl, rfl, rfl⟩))
  rw [mSg_k (by decide), h25] at rx2
  refine ⟨mSg u Z jz dp m, q', jz, N', RX_tr rx rx2, mSg_MC u Z jz dp m hZ hum hud, hgp, MK_tr (MK_le hK (Nat.le_refl _) (by omega)) (MK_le hMK (by omega) (by omega)), ⟨by omega, by omega, hb.2.2⟩, gX_cong hMK.2.2.2.2.2 hX cgS_rfl (fun k q1 q2 => hMK.1 k (Nat.zero_le _) q2), fun k hk => ?_⟩
  have r := mSg_r u Z jz dp m k hk
  have k2 := hK.2.1 (m - 1 - k) (by omega)
  exact ⟨r.1, r.2.1.trans k2.2.1, r.2.2.trans k2.2.2.1⟩
/-- what waits below the top is as it was -/
theorem w83_of (h : HF b t q j dp m N X u p T) {Z : zS} (hK : MK b t T Z j m) : (∀ k, k < u → Z.1 83 (m - 1 - k) = 2) ∧ (u = m ∨ ¬ Z.1 83 (m - 1 - u) = 2) := by
  obtain ⟨hC, hgq, hbd, hum, hud, hu, hb2⟩ := h
  refine ⟨fun k hk => by rw [(hK.2.1 _ (by omega)).1]; exact hu k hk, ?_⟩
  by_cases e : u = m
  · exact Or.inl e
  · right
    rw [(hK.2.1 _ (by omega)).1]
    exact hb2.elim (fun z => absurd z e) id
/-- the failing end of an EXPR -/
theorem ze_bad (hg : ip_gk (lg_tbl, vwCl, Gr)) (htx : ∀ k, k < t → tx (b k)) {Y : zS} {q1 j1 d1 m1 N1 p1 : Nat} (rx : RX l Gr n w d T 1 T' 0) (hM : MC b t q1 j1 d1 m1 N1 T') (hg1 : gp b t q1 = p1) (ho : okn (tk b t p1) = 0) (h63 : ¬ tk b t p1 = 63)
    (hc : ∀ Q : Option Value → zS → Prop, Q (some (.int 0)) (mF Y 1 (nI p1)) → zW l Gr (zc n w) 168 M_Mo_closes (d + 9) 0 [some (.ref 105), some (.int 0), none, none, none, none, none] [] (zi T' 73 6 (nI p1)) Q) (hK : MK b t T Y 0 0) : ZF l Gr n w d b t T 1 (nI p1) := by
  have ex := rx_e (d := d) (T' := mF Y 1 (nI p1)) hg htx hM hg1 ho h63 (e_Mo_closes (hc _ ⟨_, rfl, Or.inl rfl, rfl, rfl⟩))
  exact ZF_of rx ex mF_f.1 mF_f.2 (MK_tr hK MK_mF)
/-- an EXPR within ( ) [ ]: begun at T0, with k on the top of what waits -/
def OP (l : Launch) (Gr : zG) (n w d : Nat) (b : Nat → Int32) (t : Nat) (T T0 : zS) (x : Int32) (q0 p0 j j0 dp m N0 X : Nat) (k a pl : Int32) : Prop := RX l Gr n w d T 1 T0 x ∧ MC b t q0 j0 (dp + 1) (m + 1) N0 T0 ∧ gp b t q0 = p0 ∧ MK b t T T0 j m ∧ bud b t X j0 (m + 1) N0 q0 ∧ T0.1 83 m = k ∧ T0.1 84 m = a ∧ T0.1 85 m = pl ∧ T0.1 86 m = 0 ∧ j < j0
theorem OP_HE {T0 : zS} {x : Int32} {q0 p0 j0 N0 : Nat} {k a pl : Int32} (h : OP l Gr n w d b t T T0 x q0 p0 j j0 dp m N0 X k a pl) (h1 : ¬ k = 1) (h2 : ¬ k = 2) (h4 : ¬ k = 4) : HE b t q0 j0 (dp + 1) (m + 1) N0 X 0 p0 T0 := by
  obtain ⟨-, hM, hgp, -, hb, e83, -⟩ := h
  refine ⟨hM, hgp, hb, Nat.zero_le _, Nat.zero_le _, fun k hk => absurd hk (Nat.not_lt_zero k), Or.inr ?_, Or.inr ?_⟩
  · rw [show m + 1 - 1 - 0 = m by omega, e83]; exact ⟨h4, h1⟩
  · rw [show m + 1 - 1 = m by omega, e83]; exact h2
theorem mU_c {c k m0 : Nat} {x1 x2 x3 : Int32} (h : c ≠ 73 ∧ c ≠ 83 ∧ c ≠ 84 ∧ c ≠ 85 ∧ c ≠ 86) : (mU T m0 x1 x2 x3).1 c k = T.1 c k := by
  unfold mU
  rw [zi_c (by omega), zi_c (by omega), zi_c (by omega), zi_c (by omega), zi_c (by omega)]
theorem mU_k {k m0 : Nat} {x1 x2 x3 : Int32} (h : k ≠ 20) : (mU T m0 x1 x2 x3).1 73 k = T.1 73 k := by
  unfold mU
  rw [zi_k h, zi_c (by omega), zi_c (by omega), zi_c (by omega), zi_c (by omega)]
theorem mF_k {k : Nat} {f x : Int32} (h : k ≠ 7 ∧ k ≠ 8) : (mF T f x).1 73 k = T.1 73 k := by
  unfold mF
  rw [zi_k h.2, zi_k h.1]
theorem mF_c {c k : Nat} {f x : Int32} (h : c ≠ 73) : (mF T f x).1 c k = T.1 c k := by
  unfold mF
  rw [zi_c h, zi_c h]
/-- ( -/
theorem op_bra (hg : ip_gk (lg_tbl, vwCl, Gr)) (htx : ∀ k, k < t → tx (b k)) (h : HF b t q j dp m N X u p T) (hk : tk b t p = 40) (hd : dp < 30) : ∃ T0, OP l Gr n w d b t T T0 1 (p + 1) (np b t p) j (j + 1) dp m N X 5 0 (nI p) ∧ T0.1 78 j = 1 := by
  obtain ⟨hC, hgq, hbd, -⟩ := h
  have hp : p ≤ t := (MC_p hC hgq).1.2.2.2.1
  have hqp : q ≤ p := by rw [← hgq]; exact gp_ge hC.1.2.2.2.1
  obtain ⟨et, hpt⟩ := te_s htx hp (c := 40) (by decide) (by decide) (by decide) hk
  have ht := hC.1.2.2.2.2
  have b1 := hbd.1
  have b2 := hbd.2.1
  have k := to_bra (l := l) (Gr := Gr) (n := n) (w := w) (d := d + 2) hg htx hC hgq hk (by omega) (by omega) (by omega)
  rw [if_pos hd] at k
  have M0 := MC_at (q' := p + 1) (MC_mU (x1 := 5) (x2 := 0) (x3 := nI p) (MC_dp (d' := dp + 1) (MC_mP (x1 := 1) (x2 := 0) (x3 := 0) (x4 := nI p) (MC_p hC hgq)))) (by omega)
  have r := mU_r (T := zi (mP (zi T 73 6 (nI p)) j 1 0 0 (nI p)) 73 19 (nI (dp + 1))) (m0 := m) (x1 := 5) (x2 := 0) (x3 := nI p)
  refine ⟨tBra T p j dp m, ⟨rx_0 hg hC.2.1 k, M0, by rw [np, et], ?_, ⟨by omega, by omega, nb_up hbd.2.2 (by omega)⟩, ?_, ?_, ?_, ?_, by omega⟩, ?_⟩
  · exact MK_tr (MK_tr (MK_tr (MK_tr (MK_zi (by omega)) (MK_mP (by omega))) (MK_zi (by omega))) (MK_mU (by omega))) (MK_zi (by omega))
  · unfold tBra; rw [zi_c (by decide)]; exact r.1
  · unfold tBra; rw [zi_c (by decide)]; exact r.2.1
  · unfold tBra; rw [zi_c (by decide)]; exact r.2.2.1
  · unfold tBra; rw [zi_c (by decide)]; exact r.2.2.2
  · unfold tBra; rw [zi_c (by decide), mU_c (by decide), zi_c (by decide)]; exact mP_r.1
theorem op_braF (hg : ip_gk (lg_tbl, vwCl, Gr)) (htx : ∀ k, k < t → tx (b k)) (h : HF b t q j 30 m N X u p T) (hk : tk b t p = 40) : ZF l Gr n w d b t T 3 (nI p) := by
  obtain ⟨hC, hgq, hbd, -⟩ := h
  have hp : p ≤ t := (MC_p hC hgq).1.2.2.2.1
  have hqp : q ≤ p := by rw [← hgq]; exact gp_ge hC.1.2.2.2.1
  obtain ⟨et, hpt⟩ := te_s htx hp (c := 40) (by decide) (by decide) (by decide) hk
  have ht := hC.1.2.2.2.2
  have b1 := hbd.1
  have b2 := hbd.2.1
  have k := to_bra (l := l) (Gr := Gr) (n := n) (w := w) (d := d + 2) hg htx hC hgq hk (by omega) (by omega) (by omega)
  rw [if_neg (by omega)] at k
  have f7 : (tBraF T p j m).1 73 7 = 3 := by unfold tBraF; rw [zi_k (by decide), mU_k (by decide), zi_k (by decide)]; exact mF_f.1
  refine ZF_of (rx_0 hg hC.2.1 k) (EX_f (by rw [f7]; decide)) f7 ?_ ?_
  · unfold tBraF; rw [zi_k (by decide), mU_k (by decide), zi_k (by decide)]; exact mF_f.2
  · exact MK_tr (MK_tr (MK_tr (MK_tr (MK_tr (MK_zi (by omega)) (MK_mP (by omega))) MK_mF) (MK_zi (by omega))) (MK_mU (by omega))) (MK_zi (by omega))
/-- - ~ ! : one more sign waits -/
theorem op_una (hg : ip_gk (lg_tbl, vwCl, Gr)) (htx : ∀ k, k < t → tx (b k)) (h : HF b t q j dp m N X u p T) (hk : tk b t p = 45 ∨ tk b t p = 126 ∨ tk b t p = 33) (hd : dp < 30) : ∃ T0, RX l Gr n w d T 1 T0 1 ∧ HF b t (p + 1) j (dp + 1) (m + 1) N X (u + 1) (np b t p) T0 ∧ MK b t T T0 j m ∧ T0.1 84 m = tk b t p ∧ T0.1 85 m = nI p := by
  have h' := h
  obtain ⟨hC, hgq, hbd, hum, hud, hu, hb2⟩ := h
  have hp : p ≤ t := (MC_p hC hgq).1.2.2.2.1
  have hqp : q ≤ p := by rw [← hgq]; exact gp_ge hC.1.2.2.2.1
  have ets : te b t p = p + 1 ∧ p < t ∧ lk b t p = tk b t p := by
    rcases hk with hk | hk | hk
    · obtain ⟨e1, e2⟩ := te_s htx hp (c := 45) (by decide) (by decide) (by decide) hk
      exact ⟨e1, e2, by rw [hk]; exact ((tk_sg htx hp (by decide) (by decide) (by decide)).mpr hk).1⟩
    · obtain ⟨e1, e2⟩ := te_s htx hp (c := 126) (by decide) (by decide) (by decide) hk
      exact ⟨e1, e2, by rw [hk]; exact ((tk_sg htx hp (by decide) (by decide) (by decide)).mpr hk).1⟩
    · obtain ⟨e1, e2⟩ := te_s htx hp (c := 33) (by decide) (by decide) (by decide) hk
      exact ⟨e1, e2, by rw [hk]; exact ((tk_sg htx hp (by decide) (by decide) (by decide)).mpr hk).1⟩
  obtain ⟨et, hpt, elk⟩ := ets
  have ht := hC.1.2.2.2.2
  have b1 := hbd.1
  have b2 := hbd.2.1
  have k := to_una (l := l) (Gr := Gr) (n := n) (w := w) (d := d + 2) hg htx hC hgq hk (by omega) (by omega)
  rw [if_pos hd, elk] at k
  have M0 := MC_at (q' := p + 1) (MC_mU (x1 := 2) (x2 := tk b t p) (x3 := nI p) (MC_dp (d' := dp + 1) (MC_p hC hgq))) (by omega)
  have r := mU_r (T := zi (zi T 73 6 (nI p)) 73 19 (nI (dp + 1))) (m0 := m) (x1 := 2) (x2 := tk b t p) (x3 := nI p)
  have mk : MK b t T (tUna T p dp m (tk b t p)) j m := MK_tr (MK_tr (MK_tr (MK_zi (by omega)) (MK_zi (by omega))) (MK_mU (by omega))) (MK_zi (by omega))
  have e83 : (tUna T p dp m (tk b t p)).1 83 m = 2 := by unfold tUna; rw [zi_c (by decide)]; exact r.1
  obtain ⟨w1, w2⟩ := w83_of h' mk
  refine ⟨tUna T p dp m (tk b t p), rx_0 hg hC.2.1 k, ⟨M0, by rw [np, et], ⟨by omega, by omega, nb_up hbd.2.2 (by omega)⟩, by omega, by omega, fun k hk => ?_, ?_⟩, mk, ?_, ?_⟩
  · by_cases e : k = 0
    · subst e; exact e83
    · rw [show m + 1 - 1 - k = m - 1 - (k - 1) by omega]; exact w1 _ (by omega)
  · rcases w2 with w2 | w2
    · left; omega
    · right; rw [show m + 1 - 1 - (u + 1) = m - 1 - u by omega]; exact w2
  · unfold tUna; rw [zi_c (by decide)]; exact r.2.1
  · unfold tUna; rw [zi_c (by decide)]; exact r.2.2.1
theorem op_unaF (hg : ip_gk (lg_tbl, vwCl, Gr)) (htx : ∀ k, k < t → tx (b k)) (h : HF b t q j 30 m N X u p T) (hk : tk b t p = 45 ∨ tk b t p = 126 ∨ tk b t p = 33) : ZF l Gr n w d b t T 3 (nI p) := by
  obtain ⟨hC, hgq, hbd, -⟩ := h
  have hp : p ≤ t := (MC_p hC hgq).1.2.2.2.1
  have hqp : q ≤ p := by rw [← hgq]; exact gp_ge hC.1.2.2.2.1
  have ht := hC.1.2.2.2.2
  have b2 := hbd.2.1
  have k := to_una (l := l) (Gr := Gr) (n := n) (w := w) (d := d + 2) hg htx hC hgq hk (by omega) (by omega)
  rw [if_neg (by omega)] at k
  have f7 : (tUnaF T p m (lk b t p)).1 73 7 = 3 := by unfold tUnaF; rw [zi_k (by decide), mU_k (by decide), zi_k (by decide)]; exact mF_f.1
  refine ZF_of (rx_0 hg hC.2.1 k) (EX_f (by rw [f7]; decide)) f7 ?_ ?_
  · unfold tUnaF; rw [zi_k (by decide), mU_k (by decide), zi_k (by decide)]; exact mF_f.2
  · exact MK_tr (MK_tr (MK_tr (MK_tr (MK_zi (by omega)) MK_mF) (MK_zi (by omega))) (MK_mU (by omega))) (MK_zi (by omega))
/-- int( bit( -/
theorem op_cv (hg : ip_gk (lg_tbl, vwCl, Gr)) (ho : ip_old (lg_tbl, vwCl, Gr)) (htx : ∀ k, k < t → tx (b k)) (h : HF b t q j dp m N X u p T) (hk : tk b t p = 209 ∨ tk b t p = 210) (hk1 : tk b t (np b t p) = 40) (hd : dp < 30) : ∃ T0, OP l Gr n w d b t T T0 1 (np b t p + 1) (np b t (np b t p)) j (j + 1) dp m N X (if tk b t p = 209 then 8 else 9) 0 (nI p) ∧ T0.1 78 j = 1 := by
  obtain ⟨hC, hgq, hbd, -⟩ := h
  have hp : p ≤ t := (MC_p hC hgq).1.2.2.2.1
  have hqp : q ≤ p := by rw [← hgq]; exact gp_ge hC.1.2.2.2.1
  have e3 := wd_len3 hp htx hk
  have hnp := np_ok (b := b) hp
  obtain ⟨et, hpt⟩ := te_s htx hnp.2.2 (c := 40) (by decide) (by decide) (by decide) hk1
  have ht := hC.1.2.2.2.2
  have b1 := hbd.1
  have b2 := hbd.2.1
  have k := to_cv (l := l) (Gr := Gr) (n := n) (w := w) (d := d + 2) hg ho htx hC hgq hk (p1 := np b t p) rfl (by omega) (by omega) (by omega)
  rw [if_pos hk1, if_pos hd] at k
  obtain ⟨K, eK⟩ : ∃ K : Int32, K = if tk b t p = 209 then 8 else 9 := ⟨_, rfl⟩
  rw [← eK] at k ⊢
  have M0 := MC_mU (x1 := K) (x2 := 0) (x3 := nI p) (MC_dp (d' := dp + 1) (MC_at (q' := np b t p + 1) (MC_at (q' := np b t p) (MC_at (q' := p + 3) (MC_mP (x1 := 1) (x2 := 0) (x3 := 0) (x4 := nI p) (MC_p hC hgq)) (by rw [← e3]; exact te_le hp)) hnp.2.2) (by omega)))
  have r := mU_r (T := zi (zi (zi (zi (mP (zi T 73 6 (nI p)) j 1 0 0 (nI p)) 73 6 (nI (p + 3))) 73 6 (nI (np b t p))) 73 6 (nI (np b t p + 1))) 73 19 (nI (dp + 1))) (m0 := m) (x1 := K) (x2 := 0) (x3 := nI p)
  have hge := hnp.2.1
  rw [e3] at hge
  refine ⟨tCv T p (np b t p) j dp m K, ⟨rx_0 hg hC.2.1 k, M0, ?_, ?_, ⟨by omega, by omega, nb_up hbd.2.2 (by omega)⟩, r.1, r.2.1, r.2.2.1, r.2.2.2, by omega⟩, ?_⟩
  · show gp b t (np b t p + 1) = gp b t (te b t (np b t p))
    rw [et]
  · exact MK_tr (MK_tr (MK_tr (MK_tr (MK_tr (MK_tr (MK_zi (by omega)) (MK_mP (by omega))) (MK_zi (by omega))) (MK_zi (by omega))) (MK_zi (by omega))) (MK_zi (by omega))) (MK_mU (by omega))
  · unfold tCv; rw [mU_c (by decide), zi_c (by decide), zi_c (by decide), zi_c (by decide), zi_c (by decide)]; exact mP_r.1
theorem op_cvF (hg : ip_gk (lg_tbl, vwCl, Gr)) (ho : ip_old (lg_tbl, vwCl, Gr)) (htx : ∀ k, k < t → tx (b k)) (h : HF b t q j dp m N X u p T) (hk : tk b t p = 209 ∨ tk b t p = 210) (hdp : dp ≤ 30) : (¬ tk b t (np b t p) = 40 → ZF l Gr n w d b t T 1 (nI (np b t p))) ∧ (tk b t (np b t p) = 40 → dp = 30 → ZF l Gr n w d b t T 3 (nI (np b t p))) := by
  obtain ⟨hC, hgq, hbd, -⟩ := h
  have hp : p ≤ t := (MC_p hC hgq).1.2.2.2.1
  have hqp : q ≤ p := by rw [← hgq]; exact gp_ge hC.1.2.2.2.1
  have ht := hC.1.2.2.2.2
  have b1 := hbd.1
  have b2 := hbd.2.1
  have hpt : p < t := by
    by_cases z : p < t
    · exact z
    · exfalso
      have : tk b t p = 0 := by unfold tk; rw [if_neg z]
      rw [this] at hk
      exact absurd hk (by decide)
  have k := to_cv (l := l) (Gr := Gr) (n := n) (w := w) (d := d + 2) hg ho htx hC hgq hk (p1 := np b t p) rfl (by omega) (by omega) (by omega)
  constructor
  · intro hk1
    rw [if_neg hk1] at k
    refine ZF_of (rx_0 hg hC.2.1 k) (EX_f ?_) ?_ ?_ ?_
    · unfold tCv1; rw [mU_k (by decide), mF_f.1]; decide
    · unfold tCv1; rw [mU_k (by decide)]; exact mF_f.1
    · unfold tCv1; rw [mU_k (by decide)]; exact mF_f.2
    · exact MK_tr (MK_tr (MK_tr (MK_tr (MK_tr (MK_tr (MK_zi (by omega)) (MK_mP (by omega))) (MK_zi (by omega))) (MK_zi (by omega))) (MK_zi (by omega))) MK_mF) (MK_mU (by omega))
  · intro hk1 h30
    rw [if_pos hk1, if_neg (by omega)] at k
    refine ZF_of (rx_0 hg hC.2.1 k) (EX_f ?_) ?_ ?_ ?_
    · unfold tCv3; rw [mU_k (by decide), zi_k (by decide), mF_f.1]; decide
    · unfold tCv3; rw [mU_k (by decide), zi_k (by decide)]; exact mF_f.1
    · unfold tCv3; rw [mU_k (by decide), zi_k (by decide)]; exact mF_f.2
    · exact MK_tr (MK_tr (MK_tr (MK_tr (MK_tr (MK_tr (MK_tr (MK_zi (by omega)) (MK_mP (by omega))) (MK_zi (by omega))) (MK_zi (by omega))) (MK_zi (by omega))) MK_mF) (MK_zi (by omega))) (MK_mU (by omega))
end FO
