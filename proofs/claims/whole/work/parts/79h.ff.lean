/-! readFactor -/
section RD5
variable {l : Launch} {Gr : zG} {n w : Nat} {d : Nat} {b : Nat → Int32} {t p i ws dp p' i' q j m N X u : Nat} {S S' T T' : zS}
theorem E0_cg {S2 : zS} (h : E0 l Gr n w d b t S2 T p i p' i' j dp m X) (cs : cgS S2 S' i i') : E0 l Gr n w d b t S' T p i p' i' j dp m X := by
  obtain ⟨T', Y, q', j1, d1, m1, j', N', rx, hM, hgp, h51, hY, hK, hb, hX, h25⟩ := h
  exact ⟨T', Y, q', j1, d1, m1, j', N', rx, hM, hgp, h51, hY, hK, hb, gX_cong (fun _ _ z => z) hX cs cgT_rfl, h25⟩
/-- a sign in front of a FACTOR -/
theorem ft_una (hg : ip_gk (lg_tbl, vwCl, Gr)) (htx : ∀ k, k < t → tx (b k)) (h : HF b t q j dp m N X u p T) (hdp : dp < 30) (hk : tk b t p = 45 ∨ tk b t p = 126 ∨ tk b t p = 33) {S2 : zS} {p1 i1 : Nat} (hF : ∀ T q j m N X u, HF b t q j (dp + 1) m N X u (np b t p) T → FT l Gr n w d b t S2 T (np b t p) i p1 i1 j (dp + 1) m X u) (cs : cgS S2 S' i i1) (s1 : S'.1 6 i1 = nI p) (s2 : (S'.1 4 i1 = 34 ∧ tk b t p = 45) ∨ (S'.1 4 i1 = 35 ∧ tk b t p = 126) ∨ (S'.1 4 i1 = 36 ∧ tk b t p = 33)) : FT l Gr n w d b t S' T p i p1 (i1 + 1) j dp m X u := by
  obtain ⟨T0, rx0, hH0, mk0, e84, e85⟩ := op_una (l := l) (Gr := Gr) (n := n) (w := w) (d := d) hg htx h hk hdp
  obtain ⟨T1, q1, j1, N1, rx1, hM1, hg1, mk1, hb1, hX1, hr1⟩ := hF T0 _ _ _ _ X _ hH0
  have hum := h.2.2.2.1
  have hud := h.2.2.2.2.1
  have r0 := hr1 0 (by omega)
  rw [show m + 1 - 1 - 0 = m by omega, e84, e85] at r0
  have bx := gX_bnd hX1
  rw [show j1 + (u + 1) = j1 + 1 + u by omega, show dp + 1 - (u + 1) = dp - u by omega, show m + 1 - (u + 1) = m - u by omega] at hM1
  rw [show m + 1 - (u + 1) = m - u by omega] at mk1 hb1
  rw [show j1 + (u + 1) = j1 + 1 + u by omega] at hb1
  refine ⟨T1, q1, j1 + 1, N1, RX_tr rx0 rx1, hM1, hg1, MK_tr (MK_le mk0 (Nat.le_refl _) (by omega)) mk1, hb1, gX_una ⟨np b t p, i1, j1, gX_cong (fun _ _ z => z) hX1 cs cgT_rfl, rfl, rfl, s1, r0.1, r0.2.2, ?_⟩, fun k hk' => ?_⟩
  · rcases s2 with s2 | s2 | s2
    · exact Or.inl ⟨s2.1, by rw [show j1 = j1 + 0 from rfl, r0.2.1, s2.2]⟩
    · exact Or.inr (Or.inl ⟨s2.1, by rw [show j1 = j1 + 0 from rfl, r0.2.1, s2.2]⟩)
    · exact Or.inr (Or.inr ⟨s2.1, by rw [show j1 = j1 + 0 from rfl, r0.2.1, s2.2]⟩)
  · have r := hr1 (k + 1) (by omega)
    have k2 := mk0.2.1 (m - 1 - k) (by omega)
    rw [show m + 1 - 1 - (k + 1) = m - 1 - k by omega, k2.2.1, k2.2.2.1, show j1 + (k + 1) = j1 + 1 + k by omega] at r
    exact r
theorem w_factor (hg : ip_gk (lg_tbl, vwCl, Gr)) (ho : ip_old (lg_tbl, vwCl, Gr)) (hw : w ≤ 32) (htx : ∀ k, k < t → tx (b k)) {D : Nat} (hD : 8 ≤ D) (hdp : dp ≤ 30) (IH : dp < 30 → ∀ D', D ≤ D' + 2 → KE l Gr n w d b t (dp + 1) D') (IHF : dp < 30 → KF l Gr n w d b t (dp + 1) D) : KF l Gr n w d b t dp (D + 1) := by
  intro S p i ws h hip hws
  have hp := h.2.2.2.2.2.2.2.2.1.1
  have ht := h.2.2.2.2.2.2.2.2.2
  obtain ⟨e, rfl⟩ : ∃ e, D = e + 6 := ⟨D - 6, by omega⟩
  have K := h.2.2.2.1
  have P := h.2.2.1
  have fin : ∀ S' : zS, FR l Gr n w d b t S S' p i ws dp → zW l Gr (zc n w) 168 M_Reader_readFactor (e + 6 + 1) 311 [none, none, none, none] [] S' (fun v A => v = none ∧ FR l Gr n w d b t S A p i ws dp) := fun S' hS => b_Reader_readFactor_311 ⟨rfl, hS⟩
  have una : ∀ c : Int32, tk b t p = c → (c = 45 ∨ c = 126 ∨ c = 33) → zW l Gr (zc n w) 168 M_Reader_readFactor (e + 6 + 1) 120 [some (.ref 66), some (.int (nI dp)), some (.int c), some (.int (nI p))] [] S (fun v A => v = none ∧ FR l Gr n w d b t S A p i ws dp) := fun c hc hcc => by
    have hk : tk b t p = 45 ∨ tk b t p = 126 ∨ tk b t p = 33 := by rw [hc]; exact hcc
    have hpt : p < t := tk_pos (fun z => by rw [z] at hk; exact absurd hk (by decide))
    have hnp := np_gt (b := b) hpt
    refine b_Reader_readFactor_120 hg (w_opens hg ho hdp h) (fun v S1 hv => ?_)
    rcases hv with ⟨-, hd, ev, e1⟩ | ⟨-, hd, ev, e1⟩ | ⟨hb, -⟩
    · rw [ev, e1]
      have h1 := CS_wS h
      refine b_Reader_readFactor_126 (fun z => absurd z (by decide)) (fun _ => b_Reader_readFactor_129 hg (by rw [nI_1]; exact IHF hd _ _ _ _ h1 (by omega) (by omega)) (fun S2 hF => ?_))
      have opk : ∀ (f : Int32 → zW l Gr (zc n w) 168 M_Reader_readFactor (e + 6 + 1) 136 [some (.ref 66), none, some (.int c), some (.int (nI p))] [] S2 (fun v A => v = none ∧ FR l Gr n w d b t S A p i ws dp) → True), True := fun _ => trivial
      have sel : (∀ x : Int32, ((x = 34 ∧ tk b t p = 45) ∨ (x = 35 ∧ tk b t p = 126) ∨ (x = 36 ∧ tk b t p = 33)) → zW l Gr (zc n w) 168 M_Reader_readFactor (e + 6 + 1) 164 [none, none, none, some (.int (nI p))] [.int x, .ref 35] S2 (fun v A => v = none ∧ FR l Gr n w d b t S A p i ws dp)) → zW l Gr (zc n w) 168 M_Reader_readFactor (e + 6 + 1) 136 [some (.ref 66), none, some (.int c), some (.int (nI p))] [] S2 (fun v A => v = none ∧ FR l Gr n w d b t S A p i ws dp) := fun g => by
        refine b_Reader_readFactor_136 (fun z => b_Reader_readFactor_151 (fun z2 => b_Reader_readFactor_162 (g _ (Or.inr (Or.inr ⟨rfl, ?_⟩)))) (fun z2 => b_Reader_readFactor_157 (g _ (Or.inr (Or.inl ⟨rfl, ?_⟩))))) (fun z => b_Reader_readFactor_146 (g _ (Or.inl ⟨rfl, ?_⟩)))
        · rw [hc]; rcases hcc with y | y | y
          · exact absurd y z
          · exact absurd y z2
          · exact y
        · rw [hc]; exact z2
        · rw [hc]; exact z
      rcases hF with ⟨p1, i1, hF⟩ | ⟨f, pl, hF⟩
      · obtain ⟨h2, ck2, hlt, hbd, hFT⟩ := hF
        have hp1 := h2.2.2.2.2.2.2.2.2.1.1
        refine sel (fun x hx => ?_)
        refine b_Reader_readFactor_164 hg (w_add hg h2.2.2.2.2.2.2.1 h2.2.2.2.2.2.1 (by omega)) (fun v S3 hv => ?_)
        rw [hv.2]
        have r3 := cA_r (S := S2) (i0 := i1) (x1 := x) (x2 := 0) (x3 := nI p) (x4 := 0)
        have hxf : hxF (cA S2 i1 x 0 (nI p) 0) i (i1 + 1) dp p p1 := by
          have a0 : Hx (cA S2 i1 x 0 (nI p) 0) i i1 1 1 (320 - 11 * (dp : Int)) ((p1 : Int) - p + 1) := Hx_mono (Hx_cA hbd.2.2 (Nat.le_refl _)) (by omega) (by omega)
          rcases hx with ⟨rfl, -⟩ | ⟨rfl, -⟩ | ⟨rfl, -⟩
          · exact Hx_sg a0 r3.1 (by decide) (by decide) (by decide) (by decide) (by decide) (by omega) (by omega)
          · exact Hx_sg a0 r3.1 (by decide) (by decide) (by decide) (by decide) (by decide) (by omega) (by omega)
          · exact Hx_sg a0 r3.1 (by decide) (by decide) (by decide) (by decide) (by decide) (by omega) (by omega)
        refine b_Reader_readFactor_169 (fin _ (Or.inl ⟨p1, i1 + 1, CS_cA h2, CK_tr CK_wS (CK_tr ck2 (CK_cA (by omega))), by omega, ⟨by omega, wzb_s (by omega), hxf⟩, fun T q j m N X u hH => ?_⟩))
        refine ft_una hg htx hH hd hk hFT (fun a q1 q2 => cA_o (by omega)) r3.2.2.1 ?_
        rw [r3.1]
        exact hx
      · have f1 : ¬ S2.1 3 5 = 0 := by rw [hF.1.2.1]; exact nz hF.1.1
        refine sel (fun x hx => ?_)
        refine b_Reader_readFactor_164 hg (w_addN hg f1) (fun v S3 hv => ?_)
        rw [hv.2]
        refine b_Reader_readFactor_169 (fin _ (Or.inr ⟨f, pl, CB_tr CK_wS hF.1, fun T q j m N X u hH => ?_⟩))
        obtain ⟨T0, rx0, hH0, mk0, -, -⟩ := op_una (l := l) (Gr := Gr) (n := n) (w := w) (d := d) hg htx hH hk hd
        exact ZF_tr rx0 (MK_le mk0 (Nat.zero_le _) (Nat.zero_le _)) (hF.2 T0 _ _ _ _ X _ hH0)
    · rw [ev, e1]
      refine b_Reader_readFactor_126 (fun _ => fin _ (Or.inr ⟨3, nI p, CB_F (by decide) CK_rfl, fun T q j m N X u hH => ?_⟩)) (fun z => absurd rfl z)
      subst hd
      exact op_unaF hg htx hH hk
    · exact absurd hc hb
  have tru : ∀ c : Int32, tk b t p = c → (c = 211 ∨ c = 212) → zW l Gr (zc n w) 168 M_Reader_readFactor (e + 6 + 1) 196 [some (.ref 66), none, some (.int c), some (.int (nI p))] [] S (fun v A => v = none ∧ FR l Gr n w d b t S A p i ws dp) := fun c hc hcc => by
    have hk : tk b t p = 211 ∨ tk b t p = 212 := by rw [hc]; exact hcc
    have hpt : p < t := tk_pos (fun z => by rw [z] at hk; exact absurd hk (by decide))
    have hnp := np_gt (b := b) hpt
    have go : ∀ x : Int32, x = (if tk b t p = 211 then -1 else -2) → zW l Gr (zc n w) 168 M_Reader_readFactor (e + 6 + 1) 215 [some (.ref 66), none, none, some (.int (nI p))] [.int x, .int 23, .ref 35] S (fun v A => v = none ∧ FR l Gr n w d b t S A p i ws dp) := fun x ex => by
      refine b_Reader_readFactor_215 hg (w_add hg h.2.2.2.2.2.2.1 h.2.2.2.2.2.1 (by omega)) (fun v S1 hv => ?_)
      rw [hv.2]
      have h1 := CS_cA (x1 := 23) (x2 := x) (x3 := nI p) (x4 := 0) h
      have r1 := cA_r (S := S) (i0 := i) (x1 := 23) (x2 := x) (x3 := nI p) (x4 := 0)
      refine b_Reader_readFactor_219 hg (w_adv hg ho h1) (fun S2 e2 => ?_)
      rw [e2]
      refine b_Reader_readFactor_227 (fin _ (Or.inl ⟨np b t p, i + 1, CS_wS h1, CK_tr (CK_cA (Nat.le_refl _)) CK_wS, hnp, ⟨by omega, wzb_0 (Or.inr (Or.inr (by rcases hk with hk | hk <;> rw [hk] <;> decide))) (by omega), Hx_wS (hx_lf r1.1 (by decide) hdp hnp)⟩, fun T q j m N X u hH => ft_tru hg ho htx hH hdp hk ?_ ?_⟩))
      · rw [wS_c (by decide)]; exact r1.1
      · rw [wS_c (by decide), r1.2.1]; exact ex
    refine b_Reader_readFactor_196 (fun z => b_Reader_readFactor_213 (go _ ?_)) (fun z => b_Reader_readFactor_209 (go _ ?_))
    · rw [hc, if_neg z]
    · rw [hc, if_pos z]
  have cnv : ∀ c : Int32, tk b t p = c → (c = 209 ∨ c = 210) → zW l Gr (zc n w) 168 M_Reader_readFactor (e + 6 + 1) 238 [some (.ref 66), some (.int (nI dp)), some (.int c), none] [] S (fun v A => v = none ∧ FR l Gr n w d b t S A p i ws dp) := fun c hc hcc => by
    have hk : tk b t p = 209 ∨ tk b t p = 210 := by rw [hc]; exact hcc
    refine b_Reader_readFactor_238 hg (w_adv hg ho h) (fun S1 e1 => ?_)
    rw [e1]
    have go : ∀ x : Int32, x = (if tk b t p = 210 then 1 else 0) → zW l Gr (zc n w) 168 M_Reader_readFactor (e + 6 + 1) 258 [none, some (.int (nI dp)), none, none] [.int x, .ref 66] (wS b t (np b t p) S) (fun v A => v = none ∧ FR l Gr n w d b t S A p i ws dp) := fun x ex => by
      rw [ex]
      exact b_Reader_readFactor_258 hg (w_conv (D := e + 5) hg ho htx (by omega) hdp (fun hd => IH hd _ (by omega)) h hip hws hk) (fun S2 hS => b_Reader_readFactor_262 (fin _ hS))
    refine b_Reader_readFactor_245 (fun z => b_Reader_readFactor_257 (go _ ?_)) (fun z => b_Reader_readFactor_253 (go _ ?_))
    · rw [hc, if_neg z]
    · rw [hc, if_pos z]
  refine e_Reader_readFactor (b_Reader_readFactor_0 (fun _ => ?_) (fun z => absurd h.2.2.2.2.2.2.1 z))
  refine b_Reader_readFactor_11 (fun z => ?_) (fun z => ?_) (fun z => ?_) (fun z => ?_) (fun z => ?_) (fun z => ?_) (fun z => ?_) (fun z => ?_) (fun z => ?_) (fun z => ?_) (fun z1 z2 z33 z40 z45 z126 z209 z210 z211 z212 => ?_)
  · rw [K] at z
    exact b_Reader_readFactor_230 hg (w_named (D := e + 4) hg ho htx (by omega) hdp (fun hd => IH hd _ (by omega)) h hip hws z) (fun S2 hS => b_Reader_readFactor_235 (fin _ hS))
  · rw [K] at z
    rw [P]
    have hpt : p < t := tk_pos (by rw [z]; decide)
    have hnp := np_gt (b := b) hpt
    refine b_Reader_readFactor_173 hg (w_takeNumber (lo := 0) (hi := 4294967295) hg ho (by omega) (by omega) htx h) (fun v S1 hv => ?_)
    rcases hv with ⟨-, h10, -, hV, ev, e1⟩ | ⟨-, hbad, e1⟩ | ⟨hb, -⟩
    · rw [ev, e1]
      have h1 := CS_wS h
      refine b_Reader_readFactor_187 hg (w_add hg h1.2.2.2.2.2.2.1 h1.2.2.2.2.2.1 (by omega)) (fun v S2 hv => ?_)
      rw [hv.2, lN_i]
      have r1 := cA_r (S := wS b t (np b t p) S) (i0 := i) (x1 := 22) (x2 := nI (nv b p (te b t p - p))) (x3 := nI p) (x4 := 0)
      exact b_Reader_readFactor_192 (fin _ (Or.inl ⟨np b t p, i + 1, CS_cA h1, CK_tr CK_wS (CK_cA (Nat.le_refl _)), hnp, ⟨by omega, wzb_0 (Or.inr (Or.inl z)) (by omega), hx_lf r1.1 (by decide) hdp hnp⟩, fun T q j m N X u hH => ft_num hg hw htx hH hdp z h10 hV r1.1 r1.2.1⟩))
    · rw [e1]
      have f1 : ¬ (cF S 2 (nI p)).1 3 5 = 0 := by rw [cF_f.1]; decide
      refine b_Reader_readFactor_187 hg (w_addN hg f1) (fun v S2 hv => ?_)
      rw [hv.2]
      exact b_Reader_readFactor_192 (fin _ (Or.inr ⟨2, nI p, CB_F (by decide) CK_rfl, fun T q j m N X u hH => ft_numF hg htx hH hdp z (fun y => hbad ⟨y.1, Nat.zero_le _, y.2⟩)⟩))
    · exact absurd z hb
  · rw [K, P]; rw [K] at z; rw [z]; exact una 33 z (by decide)
  · rw [K, P]
    rw [K] at z
    rw [z]
    have hpt : p < t := tk_pos (by rw [z]; decide)
    have hnp := np_gt (b := b) hpt
    refine b_Reader_readFactor_265 hg (w_add hg h.2.2.2.2.2.2.1 h.2.2.2.2.2.1 (by omega)) (fun v S1 hv => ?_)
    rw [hv.2]
    have h1 := CS_cA (x1 := 21) (x2 := 0) (x3 := nI p) (x4 := 0) h
    have r1 := cA_r (S := S) (i0 := i) (x1 := 21) (x2 := 0) (x3 := nI p) (x4 := 0)
    obtain ⟨S1, e1⟩ : ∃ S1, S1 = cA S i 21 0 (nI p) 0 := ⟨_, rfl⟩
    have ck1 : CK S S1 i ws := by rw [e1]; exact CK_cA (Nat.le_refl _)
    rw [← e1] at h1 r1 ⊢
    refine b_Reader_readFactor_276 hg (w_opens hg ho hdp h1) (fun v S2 hv => ?_)
    rcases hv with ⟨-, hd, ev, e2⟩ | ⟨-, hd, ev, e2⟩ | ⟨hb, -⟩
    · rw [ev, e2]
      have h2 := CS_wS h1
      refine b_Reader_readFactor_283 (fun y => absurd y (by decide)) (fun _ => b_Reader_readFactor_286 hg (by rw [nI_1]; exact IH hd _ (by omega) _ _ _ _ h2 (by omega) (by omega)) (fun S3 hE => ?_))
      rcases hE with ⟨p2, i2, hE⟩ | ⟨f, pl, hE⟩
      · obtain ⟨h3, ck3, hlt, hbd, ho3, h63, hET⟩ := hE
        have hp2 := h3.2.2.2.2.2.2.2.2.1.1
        have c3 := ck3.1 i (Nat.zero_le _) (by omega)
        have ck' : CK S S3 i ws := CK_tr ck1 (CK_tr CK_wS (CK_le ck3 (by omega) (Nat.le_refl _)))
        refine b_Reader_readFactor_293 hg (w_expect hg ho h3) (fun S4 h4 => b_Reader_readFactor_299 (fin _ ?_))
        rcases h4 with ⟨h41, e4⟩ | ⟨n41, e4⟩
        · have hpt2 : p2 < t := tk_pos (by rw [h41]; decide)
          have hnp2 := np_gt (b := b) hpt2
          rw [e4]
          refine Or.inl ⟨np b t p2, i2, CS_wS h3, CK_tr ck' CK_wS, by omega, ⟨by omega, wzb_s (by omega), Hx_wS (Hx_cs (o := 21) (by rw [c3.1, wS_c (by decide)]; exact r1.1) (by decide) (by decide) (by decide) (Hx_mono hbd.2.2 (by omega) (by omega)) (by omega) (by omega))⟩, fun T q j m N X u hH => ?_⟩
          obtain ⟨T0, hop, r0⟩ := op_bra (l := l) (Gr := Gr) (n := n) (w := w) (d := d) hg htx hH z hd
          have hHE := OP_HE hop (by decide) (by decide) (by decide)
          refine (ft_bra hg htx hH hd hop r0 (E0_cg (E0_of hg (by omega) hHE (hET T0 _ _ _ N X 0 hHE)) (fun a q1 q2 => ?_)) ho3 h63 ?_).1 h41
          · rw [wS_c (by decide), wS_c (by decide), wS_c (by decide), wS_c (by decide)]; exact ⟨rfl, rfl, rfl, rfl⟩
          · rw [wS_c (by decide), c3.1, wS_c (by decide)]; exact r1.1
        · rw [e4]
          refine Or.inr ⟨1, nI p2, CB_F (by decide) (CK_le ck' (Nat.zero_le _) (Nat.zero_le _)), fun T q j m N X u hH => ?_⟩
          obtain ⟨T0, hop, r0⟩ := op_bra (l := l) (Gr := Gr) (n := n) (w := w) (d := d) hg htx hH z hd
          have hHE := OP_HE hop (by decide) (by decide) (by decide)
          refine (ft_bra hg htx hH hd hop r0 (E0_of hg (by omega) hHE (hET T0 _ _ _ N X 0 hHE)) ho3 h63 ?_).2 n41
          rw [c3.1, wS_c (by decide)]; exact r1.1
      · have f1 : ¬ S3.1 3 5 = 0 := by rw [hE.1.2.1]; exact nz hE.1.1
        refine b_Reader_readFactor_293 hg (w_expectN hg f1) (fun S4 e4 => b_Reader_readFactor_299 (fin _ ?_))
        rw [e4]
        refine Or.inr ⟨f, pl, CB_tr (CK_tr (CK_le ck1 (Nat.zero_le _) (Nat.zero_le _)) CK_wS) hE.1, fun T q j m N X u hH => ?_⟩
        obtain ⟨T0, hop, r0⟩ := op_bra (l := l) (Gr := Gr) (n := n) (w := w) (d := d) hg htx hH z hd
        exact ZF_tr hop.1 (MK_le hop.2.2.2.1 (Nat.zero_le _) (Nat.zero_le _)) (hE.2 T0 _ _ _ N X 0 (OP_HE hop (by decide) (by decide) (by decide)))
    · rw [ev, e2]
      refine b_Reader_readFactor_283 (fun _ => fin _ (Or.inr ⟨3, nI p, CB_F (by decide) (CK_le ck1 (Nat.zero_le _) (Nat.zero_le _)), fun T q j m N X u hH => ?_⟩)) (fun y => absurd rfl y)
      subst hd
      exact op_braF hg htx hH z
    · exact absurd z hb
  · rw [K, P]; rw [K] at z; rw [z]; exact una 45 z (by decide)
  · rw [K, P]; rw [K] at z; rw [z]; exact una 126 z (by decide)
  · rw [K]; rw [K] at z; rw [z]; exact cnv 209 z (by decide)
  · rw [K]; rw [K] at z; rw [z]; exact cnv 210 z (by decide)
  · rw [K, P]; rw [K] at z; rw [z]; exact tru 211 z (by decide)
  · rw [K, P]; rw [K] at z; rw [z]; exact tru 212 z (by decide)
  · rw [K] at *
    rw [P]
    refine b_Reader_readFactor_302 hg (w_tell h.2.2.2.2.2.2.1) (fun S1 e1 => ?_)
    rw [e1]
    refine fin _ (Or.inr ⟨1, nI p, CB_F (by decide) CK_rfl, fun T q j m N X u hH => ?_⟩)
    have := ft_bad (l := l) (Gr := Gr) (n := n) (w := w) (d := d) hg ho htx hH hdp z40 (fun y => y.elim z45 (fun y => y.elim z126 z33)) z2 (fun y => y.elim z211 z212) (fun y => y.elim z209 z210) (Or.inl z1)
    rw [if_neg z1] at this
    exact this
end RD5
