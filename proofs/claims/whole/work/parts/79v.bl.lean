/-! BLOCKs on both sides -/
def BL (b : Nat → Int32) (t dp p : Nat) : Prop := ¬ (tk b t p = 125 ∧ ¬ dp = 0) ∧ ¬ (dp = 0 ∧ (tk b t p = 200 ∨ tk b t p = 203 ∨ tk b t p = 208)) ∧ (p = t → ¬ dp = 0)
def KS (l : Launch) (Gr : zG) (n w d : Nat) (b : Nat → Int32) (t dp D : Nat) : Prop := ∀ S p i Dn vw, CN b t p i Dn vw S → BL b t dp p → zMv l Gr (zc n w) 168 M_Reader_readStatement D [.ref 66, .int (nI dp)] S (fun S' => SR l Gr n w d b t S S' p i Dn vw dp)
def BT (l : Launch) (Gr : zG) (n w d : Nat) (b : Nat → Int32) (t : Nat) (S' T : zS) (i p' i' j dp vw vw' iw D' : Nat) : Prop := ∃ T' q' j' N' k, PX l Gr n w d T T' ∧ HS b t q' j' dp N' vw' iw p' T' ∧ PK b t T T' j dp ∧ gL (gT w dp S' T' (nid b t T') D') k vw vw' i i' j j'
def BOK (l : Launch) (Gr : zG) (n w d : Nat) (b : Nat → Int32) (t : Nat) (S S' : zS) (p i D vw dp p' i' D' vw' : Nat) : Prop := CN b t p' i' D' vw' S' ∧ SK S S' i D ∧ p ≤ p' ∧ D ≤ D' ∧ (i' + p ≤ i + p' ∧ i ≤ i' ∧ hxS S' i i' p p') ∧ ∀ T q j N iw, HS b t q j dp N vw iw p T → TB T dp → BT l Gr n w d b t S' T i p' i' j dp vw vw' iw D'
def BR (l : Launch) (Gr : zG) (n w d : Nat) (b : Nat → Int32) (t : Nat) (S S' : zS) (p i Dn vw dp : Nat) : Prop := (¬ (tk b t p = 123 ∧ dp < 30) ∧ S' = cF S (if tk b t p = 123 then 3 else 1) (nI p)) ∨ (tk b t p = 123 ∧ dp < 30 ∧ ((∃ S2 p2 i2 D2 vw2, BOK l Gr n w d b t (wS b t (np b t p) S) S2 (np b t p) i Dn vw (dp + 1) p2 i2 D2 vw2 ∧ tk b t p2 = 125 ∧ S' = wS b t (np b t p2) S2) ∨ ∃ f pl, SBD l Gr n w d b t (wS b t (np b t p) S) S' (np b t p) (dp + 1) vw f pl))
section BLK
variable {l : Launch} {Gr : zG} {n w : Nat} {d : Nat} {b : Nat → Int32} {t p i ws dp p' i' q j m N X u k D D' vw iw s e : Nat} {S S' S'' T T' T'' : zS}
theorem TB_PK (h : TB T dp) (hK : PK b t T T' j dp) : TB T' dp := by
  rcases h with h | h
  · exact Or.inl h
  · by_cases z : dp = 0
    · exact Or.inl z
    · right
      rw [(hK.2.2.1 (dp - 1) (by omega)).1]
      exact h
theorem cgU_PK (h : PK b t T T' k dp) (hk : m ≤ k) : cgU T T' j m := ⟨fun a _ q2 => h.1 a (Nat.zero_le _) (by omega), fun a _ q2 => h.2.1 a (by omega)⟩
theorem gL_b {w dp v v' : Nat} {ni : Nat → Nat → Prop} (h : gL (gT w dp S T ni D) m v v' i i' j k) : i ≤ i' ∧ j ≤ k := gL_bnd (fun _ _ _ _ _ _ _ y => gT_bnd y) _ _ _ _ _ _ _ h
/-- a BLOCK's statements and one more -/
theorem BOK_s {p1 i1 D1 vw1 p2 i2 D2 vw2 : Nat} {S1 S2 : zS} (h1 : BOK l Gr n w d b t S S1 p i D vw dp p1 i1 D1 vw1) (h2 : SOK l Gr n w d b t S1 S2 p1 i1 D1 vw1 dp p2 i2 D2 vw2) : BOK l Gr n w d b t S S2 p i D vw dp p2 i2 D2 vw2 := by
  obtain ⟨cn1, sk1, hp1, hD1, hi1, r1⟩ := h1
  obtain ⟨cn2, sk2, hp2, hD2, hi2, r2⟩ := h2
  refine ⟨cn2, SK_tr sk1 (SK_le sk2 (by omega) (by omega)), by omega, by omega, ⟨by omega, by omega, Hx_app (Hx_0 hi1.2.2 sk2.1 (Nat.le_refl _)) hi2.2.2 (Int.le_refl _) (Int.le_refl _) (by omega) (by omega)⟩, fun T q j N iw hH hTB => ?_⟩
  obtain ⟨T1, q1, j1, N1, k, px1, hs1, pk1, g1⟩ := r1 T q j N iw hH hTB
  obtain ⟨T2, q2, j2, N2, px2, hs2, pk2, g2⟩ := r2 T1 q1 j1 N1 iw hs1 (TB_PK hTB pk1)
  have gb := gL_b g1
  refine ⟨T2, q2, j2, N2, k + 1, PX_tr px1 px2, hs2, PK_tr pk1 (PK_le pk2 (by omega) (Nat.le_refl _)), i1, j1, p1, vw1, gL_gT pk2.2.2.2.2.2.2 hD2 sk2.2.1 g1 (fun a q1 q2 => sk2.1 a (Nat.zero_le _) q2) (cgU_PK pk2 (Nat.le_refl _)), g2⟩
theorem BOK_0 (h : CN b t p i D vw S) : BOK l Gr n w d b t S S p i D vw dp p i D vw :=
  ⟨h, SK_rfl, Nat.le_refl _, Nat.le_refl _, ⟨Nat.le_refl _, Nat.le_refl _, Hx_nil (by omega) (by omega)⟩, fun T q j N iw hH _ => ⟨T, q, j, N, 0, PX_rfl, hH, PK_rfl, rfl, rfl, rfl⟩⟩
theorem wx_blk (hg : ip_gk (lg_tbl, vwCl, Gr)) (ho : ip_old (lg_tbl, vwCl, Gr)) (hD : 6 ≤ D) (hdp : 0 < dp) (IH : KS l Gr n w d b t dp D) {S0 : zS} {p0 i0 D0 vw0 : Nat} {x1 : Int32} (hx1 : x1 + 1 = nI dp) {Q : zS → Prop}
    (kok : ∀ S2 p2 i2 D2 vw2, BOK l Gr n w d b t S0 S2 p0 i0 D0 vw0 dp p2 i2 D2 vw2 → tk b t p2 = 125 → Q (wS b t (np b t p2) S2)) (kbd : ∀ S' f pl, SBD l Gr n w d b t S0 S' p0 dp vw0 f pl → Q S') :
    ∀ (m : Nat) (S : zS) (p i Dn vw c : Nat), t - p ≤ m → c < p → BOK l Gr n w d b t S0 S p0 i0 D0 vw0 dp p i Dn vw → zW l Gr (zc n w) 168 M_Reader_readBlock (D + 1) 13 [some (.ref 66), some (.int x1), some (.int (nI c))] [] S (fun v S' => v = none ∧ Q S') := by
  obtain ⟨e, rfl⟩ : ∃ e, D = e + 6 := ⟨D - 6, by omega⟩
  intro m
  induction m with
  | zero =>
    intro S p i Dn vw c hm hc hB
    have h := hB.1
    have c0 := h.1
    have ht := CS_t c0
    have hp := CS_p c0
    have ept : ¬ p < t := by omega
    have tk0 := tk_end (b := b) ept
    refine b_Reader_readBlock_13 (fun z => absurd z (nI_ge (a := c) (b := 4000) (by omega) (by omega))) (fun _ => b_Reader_readBlock_20 (fun z => absurd (CS_f c0) z) (fun _ => b_Reader_readBlock_30 (fun z => ?_) (fun z => ?_)))
    · rw [CS_k c0, tk0] at z
      exact absurd z (by decide)
    · refine b_Reader_readBlock_42 hg (by rw [hx1]; exact IH S p i Dn vw h ⟨fun y => by rw [tk0] at y; exact absurd y.1 (by decide), fun y => by omega, fun _ => by omega⟩) (fun S1 hR => b_Reader_readBlock_49 ?_)
      rcases hR with ⟨p', i', D', vw', hS⟩ | ⟨f, pl, hS⟩
      · have := hS.2.2.1
        have := CS_p hS.1.1
        omega
      · have f1 : ¬ S1.1 3 5 = 0 := by rw [hS.1.2.1]; exact nz hS.1.1
        refine b_Reader_readBlock_13 (fun _ => b_Reader_readBlock_55 hg (w_expectN hg f1) (fun A eA => b_Reader_readBlock_61 ⟨rfl, ?_⟩)) (fun _ => b_Reader_readBlock_20 (fun _ => b_Reader_readBlock_55 hg (w_expectN hg f1) (fun A eA => b_Reader_readBlock_61 ⟨rfl, ?_⟩)) (fun y => absurd y f1))
        all_goals
          rw [eA]
          refine kbd _ f pl ⟨SB_tr (SK_0 hB.2.1) hS.1, fun T q j N iw hH hTB => ?_⟩
          obtain ⟨T1, q1, j1, N1, k, px1, hs1, pk1, g1⟩ := hB.2.2.2.2.2 T q j N iw hH hTB
          exact PZ_tr px1 (PK_0 pk1) (hS.2 T1 q1 j1 N1 iw hs1 (TB_PK hTB pk1))
  | succ m ih =>
    intro S p i Dn vw c hm hc hB
    have h := hB.1
    have c0 := h.1
    have ht := CS_t c0
    have hp := CS_p c0
    refine b_Reader_readBlock_13 (fun z => absurd z (nI_ge (a := c) (b := 4000) (by omega) (by omega))) (fun _ => b_Reader_readBlock_20 (fun z => absurd (CS_f c0) z) (fun _ => b_Reader_readBlock_30 (fun z => ?_) (fun z => ?_)))
    · rw [CS_k c0] at z
      refine b_Reader_readBlock_55 hg (w_expect hg ho c0) (fun S1 h1 => b_Reader_readBlock_61 ⟨rfl, ?_⟩)
      rcases h1 with ⟨-, e1⟩ | ⟨y, -⟩
      · rw [e1]
        exact kok S p i Dn vw hB z
      · exact absurd z y
    · rw [CS_k c0] at z
      refine b_Reader_readBlock_42 hg (by rw [hx1]; exact IH S p i Dn vw h ⟨fun y => z y.1, fun y => by omega, fun _ => by omega⟩) (fun S1 hR => b_Reader_readBlock_49 ?_)
      rw [show nI c + Int32.ofInt 1 = nI (c + 1) from nI_1 c]
      rcases hR with ⟨p', i', D', vw', hS⟩ | ⟨f, pl, hS⟩
      · have := hS.2.2.1
        exact ih S1 p' i' D' vw' (c + 1) (by omega) (by omega) (BOK_s hB hS)
      · have f1 : ¬ S1.1 3 5 = 0 := by rw [hS.1.2.1]; exact nz hS.1.1
        refine b_Reader_readBlock_13 (fun _ => b_Reader_readBlock_55 hg (w_expectN hg f1) (fun A eA => b_Reader_readBlock_61 ⟨rfl, ?_⟩)) (fun _ => b_Reader_readBlock_20 (fun _ => b_Reader_readBlock_55 hg (w_expectN hg f1) (fun A eA => b_Reader_readBlock_61 ⟨rfl, ?_⟩)) (fun y => absurd y f1))
        all_goals
          rw [eA]
          refine kbd _ f pl ⟨SB_tr (SK_0 hB.2.1) hS.1, fun T q j N iw hH hTB => ?_⟩
          obtain ⟨T1, q1, j1, N1, k, px1, hs1, pk1, g1⟩ := hB.2.2.2.2.2 T q j N iw hH hTB
          exact PZ_tr px1 (PK_0 pk1) (hS.2 T1 q1 j1 N1 iw hs1 (TB_PK hTB pk1))
theorem w_block (hg : ip_gk (lg_tbl, vwCl, Gr)) (ho : ip_old (lg_tbl, vwCl, Gr)) (hD : 6 ≤ D) (hdp : dp ≤ 30) (IH : dp < 30 → KS l Gr n w d b t (dp + 1) D) {Dn : Nat} (h : CN b t p i Dn vw S) : zMv l Gr (zc n w) 168 M_Reader_readBlock (D + 1) [.ref 66, .int (nI dp)] S (fun S' => BR l Gr n w d b t S S' p i Dn vw dp) := by
  obtain ⟨e, rfl⟩ : ∃ e, D = e + 6 := ⟨D - 6, by omega⟩
  refine e_Reader_readBlock (b_Reader_readBlock_0 hg (w_opens hg ho hdp h.1) (fun v S1 hv => ?_))
  rcases hv with ⟨hk, hd, ev, e1⟩ | ⟨hk, hd, ev, e1⟩ | ⟨hk, ev, e1⟩
  · rw [ev, e1]
    have hpt : p < t := tk_pos (by rw [hk]; decide)
    have hgt := np_gt (b := b) hpt
    have hip := h.2.2.2.2.1
    refine b_Reader_readBlock_7 (fun _ => b_Reader_readBlock_11 ?_) (fun y => absurd y (by decide))
    refine wx_blk (Q := fun S' => BR l Gr n w d b t S S' p i Dn vw dp) hg ho (by omega) (by omega) (IH hd) (nI_1 dp) (fun S2 p2 i2 D2 vw2 hB h125 => Or.inr ⟨hk, hd, Or.inl ⟨S2, p2, i2, D2, vw2, hB, h125, rfl⟩⟩) (fun S' f pl hB => Or.inr ⟨hk, hd, Or.inr ⟨f, pl, hB⟩⟩) (t - np b t p) _ (np b t p) i Dn vw 0 (Nat.le_refl _) (by omega) (BOK_0 (CN_CK h (CS_wS h.1) CK_wS (by omega) (by omega)))
  · rw [ev, e1]
    exact b_Reader_readBlock_7 (fun y => absurd rfl y) (fun _ => b_Reader_readBlock_10 ⟨rfl, Or.inl ⟨fun y => by omega, by rw [if_pos hk]⟩⟩)
  · rw [ev, e1]
    exact b_Reader_readBlock_7 (fun y => absurd rfl y) (fun _ => b_Reader_readBlock_10 ⟨rfl, Or.inl ⟨fun y => hk y.1, by rw [if_neg hk]⟩⟩)
theorem w_opensN (hg : ip_gk (lg_tbl, vwCl, Gr)) {c x : Int32} (h : ¬ S.1 3 5 = 0) : zMi l Gr (zc n w) 168 M_Reader_opens (d + 6) [.ref 66, .int c, .int x] S (fun v S' => v = 0 ∧ S' = S) := by
  have bad : zW l Gr (zc n w) 168 M_Reader_opens (d + 6) 50 [some (.ref 66), none, none] [] S (fun v S' => ∃ x, v = some (.int x) ∧ (x = 0 ∨ x = 1) ∧ x = 0 ∧ S' = S) :=
    b_Reader_opens_50 (fun _ => b_Reader_opens_67 (fun _ => b_Reader_opens_81 (b_Reader_opens_82 ⟨_, rfl, Or.inl rfl, rfl, rfl⟩)) (fun y => absurd y h)) (fun y => absurd y h)
  refine e_Reader_opens (b_Reader_opens_0 (fun z => b_Reader_opens_29 (fun _ => bad) (fun _ => b_Reader_opens_35 hg (w_tellN h) (fun S1 e => by rw [e]; exact bad))) (fun z => b_Reader_opens_11 hg (w_tellN h) (fun S1 e => b_Reader_opens_26 (by rw [e]; exact bad))))
theorem w_blockN (hg : ip_gk (lg_tbl, vwCl, Gr)) {x : Int32} (h : ¬ S.1 3 5 = 0) : zMv l Gr (zc n w) 168 M_Reader_readBlock (d + 7) [.ref 66, .int x] S (fun S' => S' = S) := by
  refine e_Reader_readBlock (b_Reader_readBlock_0 hg (w_opensN hg h) (fun v S1 hv => ?_))
  rw [hv.1, hv.2]
  exact b_Reader_readBlock_7 (fun y => absurd rfl y) (fun _ => b_Reader_readBlock_10 ⟨rfl, rfl⟩)
end BLK
