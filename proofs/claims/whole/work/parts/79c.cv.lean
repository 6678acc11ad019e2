/-! int( ), bit( , ) and calls on the reference's side -/
section CV
variable {l : Launch} {Gr : zG} {n w : Nat} {d : Nat} {b : Nat → Int32} {t p i ws dp p' i' q j m N X u : Nat} {S S' T T' : zS}
/-- a , is taken -/
def mCm (Y : zS) (p1 j' m : Nat) : zS := zi (zi (zi (mP Y j' 16 (if Y.1 83 m = 7 then Y.1 84 m else -1) 0 (nI p1)) 86 m (Y.1 86 m + 1)) 73 6 (nI (p1 + 1))) 73 25 1
theorem st_com (hg : ip_gk (lg_tbl, vwCl, Gr)) (htx : ∀ k, k < t → tx (b k)) {Y : zS} {q1 j1 d1 m1 N1 p1 j' N' dd : Nat} (rx : RX l Gr n w d T 1 T' 0) (hM : MC b t q1 j1 d1 m1 N1 T') (hg1 : gp b t q1 = p1) (ho : okn (tk b t p1) = 0) (h63 : ¬ tk b t p1 = 63)
    (h51 : ∀ Q, zW l Gr (zc n w) 168 M_Mo_closes (d + 9) 51 [some (.ref 105), some (.int 0), some (.int 0), none, none, none, none] [] Y Q → zW l Gr (zc n w) 168 M_Mo_closes (d + 9) 0 [some (.ref 105), some (.int 0), none, none, none, none, none] [] (zi T' 73 6 (nI p1)) Q)
    (hY : MC b t p1 j' dd (m + 1) N' Y) (hm : m + 1 ≤ 4100) (hj : j' < 12000) (h44 : tk b t p1 = 44) (hk : Y.1 83 m = 7 ∨ (Y.1 83 m = 9 ∧ Y.1 86 m = 0)) :
    RX l Gr n w d T 1 (mCm Y p1 j' m) 1 ∧ MC b t (p1 + 1) (j' + 1) dd (m + 1) N' (mCm Y p1 j' m) ∧ MK b t Y (mCm Y p1 j' m) j' m ∧ (mCm Y p1 j' m).1 83 m = Y.1 83 m ∧ (mCm Y p1 j' m).1 84 m = Y.1 84 m ∧ (mCm Y p1 j' m).1 85 m = Y.1 85 m ∧ (mCm Y p1 j' m).1 86 m = Y.1 86 m + 1 ∧ (mCm Y p1 j' m).1 78 j' = 16 ∧ (mCm Y p1 j' m).1 79 j' = (if Y.1 83 m = 7 then Y.1 84 m else -1) := by
  have hp1 := hY.1.2.2.2.1
  obtain ⟨et, hpt⟩ := te_s htx hp1 (c := 44) (by decide) (by decide) (by decide) h44
  have key : ∀ Q : Option Value → zS → Prop, Q (some (.int 1)) (mCm Y p1 j' m) → zW l Gr (zc n w) 168 M_Mo_closes (d + 9) 0 [some (.ref 105), some (.int 0), none, none, none, none, none] [] (zi T' 73 6 (nI p1)) Q := fun Q k =>
    h51 Q (cl_51 (d := d + 6) hg htx hY (by omega) hm (fun z => by rw [h44] at z; exact absurd z (by decide)) (fun _ _ => cl_com (d := d + 6) hg hY (by omega) hm hj (hk.imp id (fun z => z.1)) k) (fun z => by rw [h44] at z; rcases z with z | z <;> exact absurd z.1 (by decide)) (fun _ z _ => absurd ⟨h44, hk.imp (fun y => ⟨y, rfl⟩) id⟩ z))
  have rx2 := rx_cl (d := d) (T' := mCm Y p1 j' m) hg htx hM hg1 ho h63 (e_Mo_closes (key _ ⟨_, rfl, Or.inr rfl, rfl, rfl⟩))
  rw [show (mCm Y p1 j' m).1 73 25 = 1 from zi_v] at rx2
  have g : ∀ c k, c ≠ 73 → ¬ (c = 86 ∧ k = m) → (mCm Y p1 j' m).1 c k = (mP Y j' 16 (if Y.1 83 m = 7 then Y.1 84 m else -1) 0 (nI p1)).1 c k := fun c k h1 h2 => by
    unfold mCm
    rw [zi_c h1, zi_c h1, zi_get, if_neg h2]
  have r := mP_r (T := Y) (j0 := j') (x1 := 16) (x2 := if Y.1 83 m = 7 then Y.1 84 m else -1) (x3 := 0) (x4 := nI p1)
  refine ⟨RX_tr rx rx2, MC_25 (MC_at (MC_o (MC_mP hY) (by omega)) (by omega)), MK_tr (MK_tr (MK_tr (MK_mP (Nat.le_refl _)) (MK_zi (by omega))) (MK_zi (by omega))) (MK_zi (by omega)), ?_, ?_, ?_, ?_, ?_, ?_⟩
  · rw [g _ _ (by decide) (by omega), mP_c (by decide)]
  · rw [g _ _ (by decide) (by omega), mP_c (by decide)]
  · rw [g _ _ (by decide) (by omega), mP_c (by decide)]
  · unfold mCm; rw [zi_c (by decide), zi_c (by decide)]; exact zi_v
  · rw [g _ _ (by decide) (by omega)]; exact r.1
  · rw [g _ _ (by decide) (by omega)]; exact r.2.1
/-- int( EXPR ) -/
theorem ft_int (hg : ip_gk (lg_tbl, vwCl, Gr)) (htx : ∀ k, k < t → tx (b k)) (h : HF b t q j dp m N X u p T) (hdp : dp < 30) {T0 S2 : zS} {q0 p0 p1 i1 N0 : Nat} (hop : OP l Gr n w d b t T T0 1 q0 p0 j (j + 1) dp m N0 X 8 0 (nI p)) (r0 : T0.1 78 j = 1) (hE : E0 l Gr n w d b t S2 T0 p0 (i + 1) p1 i1 (j + 1) (dp + 1) (m + 1) X) (ho : okn (tk b t p1) = 0) (h63 : ¬ tk b t p1 = 63) :
    (tk b t p1 = 41 → cgS S2 S' (i + 1) i1 → S'.1 4 i = 21 → S'.1 4 i1 = 31 → S'.1 6 i1 = nI p0 → FT l Gr n w d b t S' T p i (np b t p1) (i1 + 1) j dp m X u) ∧ (¬ tk b t p1 = 41 → ZF l Gr n w d b t T 1 (nI p1)) := by
  obtain ⟨T', Y, q', j1, d1, m1, j', N', rx, hM, hgp, h51, hY, hK, hb, hX, h25⟩ := hE
  obtain ⟨rx0, hM0, hgp0, mk0, hb0, e83, e84, e85, e86, hj0⟩ := hop
  have hb1 := hb.1
  have hb2 := hb.2.1
  have hp1 := hY.1.2.2.2.1
  have ht := hY.1.2.2.2.2
  have k := hK.2.1 m (by omega)
  have f83 : Y.1 83 m = 8 := k.1.trans e83
  have f85 : Y.1 85 m = nI p := k.2.2.1.trans e85
  have hbx := gX_bnd hX
  constructor
  · intro h41 cs s1 s2 s3
    have hpt := (te_s htx hp1 (c := 41) (by decide) (by decide) (by decide) h41).2
    obtain ⟨Z, eZ⟩ : ∃ Z, Z = mP (mTk Y p1 (dp + 1) (m + 1)) j' 10 0 0 (Y.1 85 m) := ⟨_, rfl⟩
    have mkZ : MK b t Y Z j' (m + 1) := by rw [eZ]; exact MK_tr mTk_MK (MK_mP (Nat.le_refl _))
    have hZ : MC b t (p1 + 1) (j' + 1) dp m N' Z := by rw [eZ]; exact MC_mP (MC_mTk hY hpt)
    have r := mP_r (T := mTk Y p1 (dp + 1) (m + 1)) (j0 := j') (x1 := 10) (x2 := 0) (x3 := 0) (x4 := Y.1 85 m)
    rw [← eZ] at r
    refine fcl (x2 := 0) hg htx h hdp (RX_tr rx0 rx) hM hgp ho h63 h51 hY (Or.inl ⟨h41, Or.inr (Or.inr (Or.inl f83))⟩) (fun Q k => pt_89 hg hY hpt hdp (by omega) (by omega) (Or.inl ⟨f83, rfl⟩) (by rw [← eZ]; exact k)) hZ (MK_tr mk0 (MK_tr (MK_le hK (by omega) (by omega)) (MK_le mkZ (by omega) (by omega)))) (gX_int ⟨p0, i1, j', gX_cong mkZ.2.2.2.2.2 hX cs (fun k q1 q2 => mkZ.1 k (Nat.zero_le _) q2), rfl, rfl, s1, s2, s3, ?_, r.1, r.2.2.2.trans f85⟩) (by rw [eZ, mP_k (by decide), mTk_25]; exact h25) ⟨by omega, by omega, nb_up hb.2.2 (by omega)⟩
    rw [(mkZ.1 j (Nat.zero_le _) (by omega)).1, (hK.1 j (Nat.zero_le _) (by omega)).1]
    exact r0
  · intro h41
    refine ze_bad hg htx (Y := Y) (RX_tr rx0 rx) hM hgp ho h63 (fun Q k => h51 Q (cl_51 (d := d + 6) hg htx hY (by omega) (by omega) (fun _ z => ?_) (fun _ z => ?_) (fun z => ?_) (fun _ _ _ => k))) (MK_tr (MK_le mk0 (Nat.zero_le _) (Nat.zero_le _)) (MK_le hK (Nat.zero_le _) (Nat.zero_le _)))
    · rw [show m + 1 - 1 = m by omega, f83] at z; exact absurd z (by decide)
    · rw [show m + 1 - 1 = m by omega, f83] at z; exact absurd z (by rintro (y | y) <;> exact absurd y.1 (by decide))
    · rw [show m + 1 - 1 = m by omega, f83] at z
      rcases z with z | z
      · exact absurd z.1 h41
      · exact absurd z.2 (by decide)
/-- bit( EXPR , : the second one may begin -/
theorem ft_bit1 (hg : ip_gk (lg_tbl, vwCl, Gr)) (htx : ∀ k, k < t → tx (b k)) (h : HF b t q j dp m N X u p T) (hdp : dp < 30) {T0 S2 : zS} {q0 p0 p1 i1 N0 : Nat} (hop : OP l Gr n w d b t T T0 1 q0 p0 j (j + 1) dp m N0 X 9 0 (nI p)) (r0 : T0.1 78 j = 1) (hE : E0 l Gr n w d b t S2 T0 p0 (i + 1) p1 i1 (j + 1) (dp + 1) (m + 1) X) (ho : okn (tk b t p1) = 0) (h63 : ¬ tk b t p1 = 63) :
    (tk b t p1 = 44 → ∃ T2 j' N', RX l Gr n w d T 1 T2 1 ∧ MC b t (p1 + 1) (j' + 1) (dp + 1) (m + 1) N' T2 ∧ MK b t T T2 j m ∧ T2.1 83 m = 9 ∧ T2.1 85 m = nI p ∧ T2.1 86 m = 1 ∧ T2.1 78 j = 1 ∧ T2.1 78 j' = 16 ∧ T2.1 79 j' = -1 ∧ bud b t X (j' + 1) (m + 1) N' (p1 + 1) ∧ gX w S2 T2 (nid b t T2) p0 (i + 1) i1 (j + 1) j') ∧ (¬ tk b t p1 = 44 → ZF l Gr n w d b t T 1 (nI p1)) := by
  obtain ⟨T', Y, q', j1, d1, m1, j', N', rx, hM, hgp, h51, hY, hK, hb, hX, h25⟩ := hE
  obtain ⟨rx0, hM0, hgp0, mk0, hb0, e83, e84, e85, e86, hj0⟩ := hop
  have hb1 := hb.1
  have hb2 := hb.2.1
  have hp1 := hY.1.2.2.2.1
  have ht := hY.1.2.2.2.2
  have k := hK.2.1 m (by omega)
  have f83 : Y.1 83 m = 9 := k.1.trans e83
  have f85 : Y.1 85 m = nI p := k.2.2.1.trans e85
  have f86 : Y.1 86 m = 0 := k.2.2.2.trans e86
  have hbx := gX_bnd hX
  constructor
  · intro h44
    have hpt := (te_s htx hp1 (c := 44) (by decide) (by decide) (by decide) h44).2
    obtain ⟨rx2, hM2, mk2, g83, g84, g85, g86, g78, g79⟩ := st_com hg htx (RX_tr rx0 rx) hM hgp ho h63 h51 hY (by omega) (by omega) h44 (Or.inr ⟨f83, f86⟩)
    refine ⟨mCm Y p1 j' m, j', N', rx2, hM2, MK_tr mk0 (MK_tr (MK_le hK (by omega) (by omega)) (MK_le mk2 (by omega) (by omega))), g83.trans f83, g85.trans f85, by rw [g86, f86]; rfl, ?_, g78, ?_, ⟨by omega, by omega, nb_up hb.2.2 (by omega)⟩, gX_cong mk2.2.2.2.2.2 hX cgS_rfl (fun k q1 q2 => mk2.1 k (Nat.zero_le _) q2)⟩
    · rw [(mk2.1 j (Nat.zero_le _) (by omega)).1, (hK.1 j (Nat.zero_le _) (by omega)).1]; exact r0
    · rw [g79, f83, if_neg (by decide)]
  · intro h44
    refine ze_bad hg htx (Y := Y) (RX_tr rx0 rx) hM hgp ho h63 (fun Q k => h51 Q (cl_51 (d := d + 6) hg htx hY (by omega) (by omega) (fun _ z => ?_) (fun z => absurd z h44) (fun z => ?_) (fun _ _ _ => k))) (MK_tr (MK_le mk0 (Nat.zero_le _) (Nat.zero_le _)) (MK_le hK (Nat.zero_le _) (Nat.zero_le _)))
    · rw [show m + 1 - 1 = m by omega, f83] at z; exact absurd z (by decide)
    · rw [show m + 1 - 1 = m by omega, f83, f86] at z
      rcases z with z | z
      · exact absurd z.2 (by rintro (y | y | y | y) <;> first | exact absurd y (by decide) | exact absurd y.2 (by decide))
      · exact absurd z.2 (by decide)
theorem ft_bit2 (hg : ip_gk (lg_tbl, vwCl, Gr)) (htx : ∀ k, k < t → tx (b k)) (h : HF b t q j dp m N X u p T) (hdp : dp < 30) {T2 S2 S3 : zS} {p0 p1 p2 i1 i2 ja : Nat} (rx2 : RX l Gr n w d T 1 T2 1) (mkT : MK b t T T2 j m) (e83 : T2.1 83 m = 9) (e85 : T2.1 85 m = nI p) (e86 : T2.1 86 m = 1) (r0 : T2.1 78 j = 1) (r1 : T2.1 78 ja = 16) (r2 : T2.1 79 ja = -1) (g1 : gX w S2 T2 (nid b t T2) p0 (i + 1) i1 (j + 1) ja) (hE : E0 l Gr n w d b t S3 T2 p1 (i1 + 1) p2 i2 (ja + 1) (dp + 1) (m + 1) X) (ho : okn (tk b t p2) = 0) (h63 : ¬ tk b t p2 = 63) :
    (tk b t p2 = 41 → cgS S2 S' (i + 1) i1 → cgS S3 S' (i1 + 1) i2 → S'.1 4 i = 21 → S'.1 4 i1 = 32 → S'.1 6 i1 = nI p0 → S'.1 4 i2 = 33 → S'.1 6 i2 = nI p1 → FT l Gr n w d b t S' T p i (np b t p2) (i2 + 1) j dp m X u) ∧ (¬ tk b t p2 = 41 → ZF l Gr n w d b t T 1 (nI p2)) := by
  obtain ⟨T', Y, q', j1, d1, m1, j', N', rx, hM, hgp, h51, hY, hK, hb, hX, h25⟩ := hE
  have hb1 := hb.1
  have hb2 := hb.2.1
  have hp1 := hY.1.2.2.2.1
  have ht := hY.1.2.2.2.2
  have k := hK.2.1 m (by omega)
  have f83 : Y.1 83 m = 9 := k.1.trans e83
  have f85 : Y.1 85 m = nI p := k.2.2.1.trans e85
  have f86 : Y.1 86 m = 1 := k.2.2.2.trans e86
  have hbx := gX_bnd hX
  have hb0 := gX_bnd g1
  constructor
  · intro h41 cs1 cs2 s1 s2 s3 s4 s5
    have hpt := (te_s htx hp1 (c := 41) (by decide) (by decide) (by decide) h41).2
    obtain ⟨Z, eZ⟩ : ∃ Z, Z = mP (mTk Y p2 (dp + 1) (m + 1)) j' 11 0 0 (Y.1 85 m) := ⟨_, rfl⟩
    have mkZ : MK b t Y Z j' (m + 1) := by rw [eZ]; exact MK_tr mTk_MK (MK_mP (Nat.le_refl _))
    have hZ : MC b t (p2 + 1) (j' + 1) dp m N' Z := by rw [eZ]; exact MC_mP (MC_mTk hY hpt)
    have r := mP_r (T := mTk Y p2 (dp + 1) (m + 1)) (j0 := j') (x1 := 11) (x2 := 0) (x3 := 0) (x4 := Y.1 85 m)
    rw [← eZ] at r
    have mk2 : MK b t T2 Z (ja + 1) (m + 1) := MK_tr hK (MK_le mkZ (by omega) (Nat.le_refl _))
    have tj := mk2.1 ja (Nat.zero_le _) (by omega)
    exact fcl (x2 := 0) hg htx h hdp (RX_tr rx2 rx) hM hgp ho h63 h51 hY (Or.inl ⟨h41, Or.inr (Or.inr (Or.inr ⟨f83, f86⟩))⟩) (fun Q k => pt_89 hg hY hpt hdp (by omega) (by omega) (Or.inr ⟨f83, rfl⟩) (by rw [← eZ]; exact k)) hZ (MK_tr mkT (MK_le mk2 (by omega) (by omega))) (gX_bit ⟨p0, i1, ja, p1, i2, j', gX_cong mk2.2.2.2.2.2 g1 cs1 (fun k q1 q2 => mk2.1 k (Nat.zero_le _) (by omega)), gX_cong mkZ.2.2.2.2.2 hX cs2 (fun k q1 q2 => mkZ.1 k (Nat.zero_le _) q2), rfl, rfl, s1, s2, s3, s4, s5, (mk2.1 j (Nat.zero_le _) (by omega)).1.trans r0, tj.1.trans r1, tj.2.1.trans r2, r.1, r.2.2.2.trans f85⟩) (by rw [eZ, mP_k (by decide), mTk_25]; exact h25) ⟨by omega, by omega, nb_up hb.2.2 (by omega)⟩
  · intro h41
    refine ze_bad hg htx (Y := Y) (RX_tr rx2 rx) hM hgp ho h63 (fun Q k => h51 Q (cl_51 (d := d + 6) hg htx hY (by omega) (by omega) (fun _ z => ?_) (fun _ z => ?_) (fun z => ?_) (fun _ _ _ => k))) (MK_tr (MK_le mkT (Nat.zero_le _) (Nat.zero_le _)) (MK_le hK (Nat.zero_le _) (Nat.zero_le _)))
    · rw [show m + 1 - 1 = m by omega, f83] at z; exact absurd z (by decide)
    · rw [show m + 1 - 1 = m by omega, f83, f86] at z; exact absurd z (by rintro (y | y) <;> first | exact absurd y.1 (by decide) | exact absurd y.2 (by decide))
    · rw [show m + 1 - 1 = m by omega, f83] at z
      rcases z with z | z
      · exact absurd z.1 h41
      · exact absurd z.2 (by decide)
/-- ahead of a call's EXPR number k -/
def AR (l : Launch) (Gr : zG) (n w d : Nat) (b : Nat → Int32) (t : Nat) (S T T1 : zS) (p i i1 q0 p1 j j1 dp m N X k v : Nat) : Prop := RX l Gr n w d T 1 T1 1 ∧ MC b t q0 j1 (dp + 1) (m + 1) N T1 ∧ gp b t q0 = p1 ∧ MK b t T T1 j m ∧ bud b t X j1 (m + 1) N q0 ∧ (T1.1 83 m = 7 ∧ T1.1 84 m = nI (j + 1) ∧ T1.1 85 m = nI p ∧ T1.1 86 m = nI k) ∧ nid b t T1 v p ∧ (T1.1 78 j = 1 ∧ T1.1 78 (j + 1) = 8 ∧ T1.1 79 (j + 1) = nI v ∧ T1.1 81 (j + 1) = nI p) ∧ gA S T1 (gX w S T1 (nid b t T1)) i (j + 1) k (i + 1) i1 (j + 2) j1
theorem gA_X {S1 T1 S2 T2 : zS} {ni ni' : Nat → Nat → Prop} (hni : ∀ v p, ni v p → ni' v p) {hd cl k a a' c c' : Nat} (h : gA S1 T1 (gX w S1 T1 ni) hd cl k a a' c c') (cs : cgS S1 S2 a a') (ct : cgT T1 T2 c c') : gA S2 T2 (gX w S2 T2 ni') hd cl k a a' c c' := gA_cong (fun _ _ _ _ _ z => gX_bnd z) (fun _ _ _ _ _ z z1 z2 => gX_cong hni z z1 z2) k a a' c c' h cs ct
theorem ft_arg (hg : ip_gk (lg_tbl, vwCl, Gr)) (htx : ∀ k, k < t → tx (b k)) (h : HF b t q j dp m N X u p T) (hdp : dp < 30) {T1 S1 S2 : zS} {q0 p1 p2 i1 i2 j1 N0 k v : Nat} (hA : AR l Gr n w d b t S1 T T1 p i i1 q0 p1 j j1 dp m N0 X k v) (hE : E0 l Gr n w d b t S2 T1 p1 i1 p2 i2 j1 (dp + 1) (m + 1) X) (ho : okn (tk b t p2) = 0) (h63 : ¬ tk b t p2 = 63) (ck : cgS S1 S2 (i + 1) i1) :
    (tk b t p2 = 44 → cgS S2 S' (i + 1) i2 → S'.1 4 i2 = 29 → S'.1 5 i2 = nI i → S'.1 6 i2 = nI p1 → S'.1 7 i2 = nI k → ∃ T2 j2 N2, AR l Gr n w d b t S' T T2 p i (i2 + 1) (p2 + 1) (np b t p2) j j2 dp m N2 X (k + 1) v) ∧
    (tk b t p2 = 41 → cgS S2 S' (i + 1) i2 → S'.1 4 i2 = 29 → S'.1 5 i2 = nI i → S'.1 6 i2 = nI p1 → S'.1 7 i2 = nI k → S'.1 4 i = 28 → S'.1 6 i = nI p → S'.1 7 i = nI (k + 1) → S'.1 4 (i2 + 1) = 30 → S'.1 5 (i2 + 1) = nI i → FT l Gr n w d b t S' T p i (np b t p2) (i2 + 2) j dp m X u) ∧
    (¬ tk b t p2 = 44 → ¬ tk b t p2 = 41 → ZF l Gr n w d b t T 1 (nI p2)) := by
  obtain ⟨T', Y, q', ja, d1, m1, j', N', rx, hM, hgp, h51, hY, hK, hb, hX, h25⟩ := hE
  obtain ⟨rx0, hM0, hgp0, mk0, hb0, ⟨e83, e84, e85, e86⟩, hid, ⟨r0, r1, r2, r3⟩, hgA⟩ := hA
  have hb1 := hb.1
  have hb2 := hb.2.1
  have hp2 := hY.1.2.2.2.1
  have ht := hY.1.2.2.2.2
  have kk := hK.2.1 m (by omega)
  have f83 : Y.1 83 m = 7 := kk.1.trans e83
  have f84 : Y.1 84 m = nI (j + 1) := kk.2.1.trans e84
  have f85 : Y.1 85 m = nI p := kk.2.2.1.trans e85
  have f86 : Y.1 86 m = nI k := kk.2.2.2.trans e86
  have hbx := gX_bnd hX
  have hgb := gA_bnd (fun _ _ _ _ _ z => gX_bnd z) _ _ _ _ _ hgA
  have u0 := hK.1 j (Nat.zero_le _) (by omega)
  have u1 := hK.1 (j + 1) (Nat.zero_le _) (by omega)
  refine ⟨fun h44 cs s1 s2 s3 s4 => ?_, fun h41 cs s1 s2 s3 s4 s5 s6 s7 s8 s9 => ?_, fun n44 n41 => ?_⟩
  · obtain ⟨et, hpt⟩ := te_s htx hp2 (c := 44) (by decide) (by decide) (by decide) h44
    obtain ⟨rx2, hM2, mk2, g83, g84, g85, g86, g78, g79⟩ := st_com hg htx (RX_tr rx0 rx) hM hgp ho h63 h51 hY (by omega) (by omega) h44 (Or.inl f83)
    have t0 := mk2.1 j (Nat.zero_le _) (by omega)
    have t1 := mk2.1 (j + 1) (Nat.zero_le _) (by omega)
    refine ⟨mCm Y p2 j' m, j' + 1, N', rx2, hM2, ?_, MK_tr mk0 (MK_tr (MK_le hK (by omega) (by omega)) (MK_le mk2 (by omega) (by omega))), ⟨by omega, by omega, nb_up hb.2.2 (by omega)⟩, ⟨g83.trans f83, g84.trans f84, g85.trans f85, by rw [g86, f86, nI_1]⟩, nid_MK (nid_MK hid hK) mk2, ⟨t0.1.trans (u0.1.trans r0), t1.1.trans (u1.1.trans r1), t1.2.1.trans (u1.2.1.trans r2), t1.2.2.2.1.trans (u1.2.2.2.1.trans r3)⟩, i1, j1, p1, i2, j', ?_, ?_, rfl, rfl, s1, s2, s3, s4, g78, ?_⟩
    · show gp b t (p2 + 1) = gp b t (te b t p2)
      rw [et]
    · refine gA_X (fun v p z => mk2.2.2.2.2.2 v p (hK.2.2.2.2.2 v p z)) hgA (fun a q1 q2 => ?_) (fun a q1 q2 => ?_)
      · have x := ck a q1 q2
        have y := cs a q1 (by omega)
        exact ⟨y.1.trans x.1, y.2.1.trans x.2.1, y.2.2.1.trans x.2.2.1, y.2.2.2.trans x.2.2.2⟩
      · have x := hK.1 a (Nat.zero_le _) (by omega)
        have y := mk2.1 a (Nat.zero_le _) (by omega)
        exact ⟨y.1.trans x.1, y.2.1.trans x.2.1, y.2.2.1.trans x.2.2.1, y.2.2.2.1.trans x.2.2.2.1, y.2.2.2.2.trans x.2.2.2.2⟩
    · exact gX_cong mk2.2.2.2.2.2 hX (fun a q1 q2 => cs a (by omega) q2) (fun a q1 q2 => mk2.1 a (Nat.zero_le _) q2)
    · rw [g79, f83, if_pos rfl]; exact f84
  · have hpt := (te_s htx hp2 (c := 41) (by decide) (by decide) (by decide) h41).2
    obtain ⟨W, eW⟩ : ∃ W, W = mP (zi (mTk Y p2 (dp + 1) (m + 1)) 80 (j + 1) (nI (k + 1))) j' 16 (nI (j + 1)) 0 (nI (p2 + 1)) := ⟨_, rfl⟩
    obtain ⟨Z, eZ⟩ : ∃ Z, Z = mP W (j' + 1) 9 (W.1 79 (j + 1)) 0 (Y.1 85 m) := ⟨_, rfl⟩
    have hW : MC b t (p2 + 1) (j' + 1) dp m N' W := by rw [eW]; exact MC_mP (MC_o (MC_mTk hY hpt) (by omega))
    have hZ : MC b t (p2 + 1) (j' + 2) dp m N' Z := by rw [eZ]; exact MC_mP hW
    -- what is kept between Y and Z: all below j', but the count of the call
    have mkT : MK b t (mTk Y p2 (dp + 1) (m + 1)) Z 0 (m + 1) := by
      rw [eZ, eW]
      exact MK_tr (MK_tr (MK_zi (by omega)) (MK_mP (by omega))) (MK_mP (by omega))
    have mkY0 : MK b t Y Z 0 (m + 1) := MK_tr mTk_MK mkT
    have keep : ∀ a, a < j' → Z.1 78 a = Y.1 78 a ∧ Z.1 79 a = Y.1 79 a ∧ (a ≠ j + 1 → Z.1 80 a = Y.1 80 a) ∧ Z.1 81 a = Y.1 81 a ∧ Z.2 82 a = Y.2 82 a := fun a ha => by
      have z1 := (MK_mP (b := b) (t := t) (T := W) (j := j' + 1) (m := 0) (x1 := 9) (x2 := W.1 79 (j + 1)) (x3 := 0) (x4 := Y.1 85 m) (Nat.le_refl _)).1 a (Nat.zero_le _) (by omega)
      rw [← eZ] at z1
      have z2 := (MK_mP (b := b) (t := t) (T := zi (mTk Y p2 (dp + 1) (m + 1)) 80 (j + 1) (nI (k + 1))) (j := j') (m := 0) (x1 := 16) (x2 := nI (j + 1)) (x3 := 0) (x4 := nI (p2 + 1)) (Nat.le_refl _)).1 a (Nat.zero_le _) ha
      rw [← eW] at z2
      have z3 := (mTk_MK (b := b) (t := t) (Y := Y) (p1 := p2) (dd := dp + 1) (mm := m + 1) (j0 := j') (m0 := 0)).1 a (Nat.zero_le _) ha
      refine ⟨?_, ?_, fun hne => ?_, ?_, ?_⟩
      · rw [z1.1, z2.1, zi_c (by decide)]; exact z3.1
      · rw [z1.2.1, z2.2.1, zi_c (by decide)]; exact z3.2.1
      · rw [z1.2.2.1, z2.2.2.1, zi_k hne]; exact z3.2.2.1
      · rw [z1.2.2.2.1, z2.2.2.2.1, zi_c (by decide)]; exact z3.2.2.2.1
      · rw [z1.2.2.2.2, z2.2.2.2.2]; exact z3.2.2.2.2
    have mkTZ : MK b t T Z j m := by
      refine ⟨fun a q1 q2 => ?_, (MK_tr (MK_tr (MK_le mk0 (Nat.zero_le _) (Nat.le_refl _)) (MK_le hK (Nat.zero_le _) (by omega))) (MK_le mkY0 (Nat.le_refl _) (by omega))).2⟩
      have x := mk0.1 a q1 q2
      have y := hK.1 a q1 (by omega)
      have z := keep a (by omega)
      exact ⟨z.1.trans (y.1.trans x.1), z.2.1.trans (y.2.1.trans x.2.1), (z.2.2.1 (by omega)).trans (y.2.2.1.trans x.2.2.1), z.2.2.2.1.trans (y.2.2.2.1.trans x.2.2.2.1), z.2.2.2.2.trans (y.2.2.2.2.trans x.2.2.2.2)⟩
    have rW := mP_r (T := zi (mTk Y p2 (dp + 1) (m + 1)) 80 (j + 1) (nI (k + 1))) (j0 := j') (x1 := 16) (x2 := nI (j + 1)) (x3 := 0) (x4 := nI (p2 + 1))
    rw [← eW] at rW
    have rZ := mP_r (T := W) (j0 := j' + 1) (x1 := 9) (x2 := W.1 79 (j + 1)) (x3 := 0) (x4 := Y.1 85 m)
    rw [← eZ] at rZ
    have zj' := (MK_mP (b := b) (t := t) (T := W) (j := j' + 1) (m := 0) (x1 := 9) (x2 := W.1 79 (j + 1)) (x3 := 0) (x4 := Y.1 85 m) (Nat.le_refl _)).1 j' (Nat.zero_le _) (by omega)
    rw [← eZ] at zj'
    have z80 : Z.1 80 (j + 1) = nI (k + 1) := by
      have a1 := (MK_mP (b := b) (t := t) (T := W) (j := j' + 1) (m := 0) (x1 := 9) (x2 := W.1 79 (j + 1)) (x3 := 0) (x4 := Y.1 85 m) (Nat.le_refl _)).1 (j + 1) (Nat.zero_le _) (by omega)
      rw [← eZ] at a1
      have a2 := (MK_mP (b := b) (t := t) (T := zi (mTk Y p2 (dp + 1) (m + 1)) 80 (j + 1) (nI (k + 1))) (j := j') (m := 0) (x1 := 16) (x2 := nI (j + 1)) (x3 := 0) (x4 := nI (p2 + 1)) (Nat.le_refl _)).1 (j + 1) (Nat.zero_le _) (by omega)
      rw [← eW] at a2
      rw [a1.2.2.1, a2.2.2.1]
      exact zi_v
    have w79 : W.1 79 (j + 1) = nI v := by
      have a2 := (MK_mP (b := b) (t := t) (T := zi (mTk Y p2 (dp + 1) (m + 1)) 80 (j + 1) (nI (k + 1))) (j := j') (m := 0) (x1 := 16) (x2 := nI (j + 1)) (x3 := 0) (x4 := nI (p2 + 1)) (Nat.le_refl _)).1 (j + 1) (Nat.zero_le _) (by omega)
      rw [← eW] at a2
      rw [a2.2.1, zi_c (by decide), mTk_c (by decide), u1.2.1]
      exact r2
    have kj := keep j (by omega)
    have kj1 := keep (j + 1) (by omega)
    have ni' : ∀ v p, nid b t Y v p → nid b t Z v p := mkY0.2.2.2.2.2
    refine fcl (x2 := 0) hg htx h hdp (RX_tr rx0 rx) hM hgp ho h63 h51 hY (Or.inl ⟨h41, Or.inr (Or.inl f83)⟩) (fun Q q1 => pt_7 (c := j + 1) (cnt := k) hg hY hpt hdp (by omega) (by omega) (by omega) f83 f84 f86 rfl (by rw [← eW, ← eZ]; exact q1)) hZ mkTZ (gX_cal ⟨v, k + 1, i2 + 1, j' + 1, ni' _ _ (nid_MK hid hK), ⟨i1, j1, p1, i2, j', ?_, ?_, rfl, rfl, s1, s2, s3, s4, zj'.1.trans rW.1, zj'.2.1.trans rW.2.1⟩, rfl, rfl, s5, s6, s7, s8, s9, kj.1.trans (u0.1.trans r0), kj1.1.trans (u1.1.trans r1), kj1.2.1.trans (u1.2.1.trans r2), z80, kj1.2.2.2.1.trans (u1.2.2.2.1.trans r3), rZ.1, rZ.2.1.trans w79, rZ.2.2.2.trans f85⟩) ?_ ⟨by omega, by omega, nb_up hb.2.2 (by omega)⟩
    · refine gA_X (fun v p z => ni' v p (hK.2.2.2.2.2 v p z)) hgA (fun a q1 q2 => ?_) (fun a q1 q2 => ?_)
      · have x := ck a q1 q2
        have y := cs a q1 (by omega)
        exact ⟨y.1.trans x.1, y.2.1.trans x.2.1, y.2.2.1.trans x.2.2.1, y.2.2.2.trans x.2.2.2⟩
      · have x := hK.1 a (Nat.zero_le _) (by omega)
        have y := keep a (by omega)
        exact ⟨y.1.trans x.1, y.2.1.trans x.2.1, (y.2.2.1 (by omega)).trans x.2.2.1, y.2.2.2.1.trans x.2.2.2.1, y.2.2.2.2.trans x.2.2.2.2⟩
    · refine gX_cong ni' hX (fun a q1 q2 => cs a (by omega) q2) (fun a q1 q2 => ?_)
      have y := keep a q2
      exact ⟨y.1, y.2.1, y.2.2.1 (by omega), y.2.2.2.1, y.2.2.2.2⟩
    · rw [eZ, mP_k (by decide), eW, mP_k (by decide), zi_c (by decide), mTk_25]; exact h25
  · refine ze_bad hg htx (Y := Y) (RX_tr rx0 rx) hM hgp ho h63 (fun Q k => h51 Q (cl_51 (d := d + 6) hg htx hY (by omega) (by omega) (fun _ z => ?_) (fun z => absurd z n44) (fun z => ?_) (fun _ _ _ => k))) (MK_tr (MK_le mk0 (Nat.zero_le _) (Nat.zero_le _)) (MK_le hK (Nat.zero_le _) (Nat.zero_le _)))
    · rw [show m + 1 - 1 = m by omega, f83] at z; exact absurd z (by decide)
    · rw [show m + 1 - 1 = m by omega, f83] at z
      rcases z with z | z
      · exact absurd z.1 n41
      · exact absurd z.2 (by decide)
end CV
