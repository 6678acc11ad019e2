/-! one EXPR on both sides: what is to be shown -/
/-- ahead of a FACTOR: u signs wait on the reference's side -/
def HF (b : Nat → Int32) (t q j dp m N X u p : Nat) (T : zS) : Prop := MC b t q j dp m N T ∧ gp b t q = p ∧ bud b t X j m N q ∧ u ≤ m ∧ u ≤ dp ∧ (∀ k, k < u → T.1 83 (m - 1 - k) = 2) ∧ (u = m ∨ ¬ T.1 83 (m - 1 - u) = 2)
def FT (l : Launch) (Gr : zG) (n w d : Nat) (b : Nat → Int32) (t : Nat) (S' T : zS) (p i p' i' j dp m X u : Nat) : Prop := ∃ T' q' j' N', RX l Gr n w d T 1 T' 0 ∧ MC b t q' (j' + u) (dp - u) (m - u) N' T' ∧ gp b t q' = p' ∧ MK b t T T' j (m - u) ∧ bud b t X (j' + u) (m - u) N' q' ∧ gX w S' T' (nid b t T') p i i' j j' ∧ ∀ k, k < u → T'.1 78 (j' + k) = 12 ∧ T'.1 79 (j' + k) = T.1 84 (m - 1 - k) ∧ T'.1 81 (j' + k) = T.1 85 (m - 1 - k)
def FOK (l : Launch) (Gr : zG) (n w d : Nat) (b : Nat → Int32) (t : Nat) (S S' : zS) (p i ws dp p' i' : Nat) : Prop := CS b t p' i' ws S' ∧ CK S S' i ws ∧ p < p' ∧ (i' + p ≤ i + p' ∧ i + wzb b t p < i' ∧ hxF S' i i' dp p p') ∧ ∀ T q j m N X u, HF b t q j dp m N X u p T → FT l Gr n w d b t S' T p i p' i' j dp m X u
/-- both tell the same FAULT -/
def ZF (l : Launch) (Gr : zG) (n w d : Nat) (b : Nat → Int32) (t : Nat) (T : zS) (f pl : Int32) : Prop := ∃ T', EX l Gr n w d T 1 T' ∧ T'.1 73 7 = f ∧ T'.1 73 8 = pl ∧ MK b t T T' 0 0
abbrev fz (f : Int32) : Prop := ¬ f ≤ 0
theorem nz {f : Int32} (h : fz f) : ¬ f = 0 := fun e => h (by rw [e]; exact Int32.le_refl _)
def CB (S S' : zS) (f pl : Int32) : Prop := fz f ∧ S'.1 3 5 = f ∧ S'.1 3 6 = pl ∧ CK S S' 0 0
def FBD (l : Launch) (Gr : zG) (n w d : Nat) (b : Nat → Int32) (t : Nat) (S S' : zS) (p dp : Nat) (f pl : Int32) : Prop := CB S S' f pl ∧ ∀ T q j m N X u, HF b t q j dp m N X u p T → ZF l Gr n w d b t T f pl
/-- ahead of a CHOICE -/
def HC (b : Nat → Int32) (t q j dp m N X p : Nat) (T : zS) : Prop := MC b t q j dp m N T ∧ gp b t q = p ∧ bud b t X j m N q ∧ (m = 0 ∨ (¬ T.1 83 (m - 1) = 1 ∧ ¬ T.1 83 (m - 1) = 2))
def bins (T : zS) (m x : Nat) (os : Nat → Nat) : Prop := ∀ k, k < x → T.1 83 (m + k) = 1 ∧ T.1 84 (m + k) = nI (os k) ∧ ¬ os k = 0 ∧ os k ≤ 18
def CT (l : Launch) (Gr : zG) (n w d : Nat) (b : Nat → Int32) (t : Nat) (S' T : zS) (p i p' i' j dp m X : Nat) : Prop := ∃ T' q' x os j1 N', RX l Gr n w d T 1 T' 0 ∧ MC b t q' j1 dp (m + x) N' T' ∧ gp b t q' = p' ∧ MK b t T T' j m ∧ bud b t X j1 (m + x) N' q' ∧ bins T' m x os ∧ j < j1 ∧ ¬ T'.1 78 (j1 - 1) = 8 ∧ ∀ Y, MK b t T' Y j1 (m + x) → gX w S' (mRd x Y j1 (m + x)) (nid b t T') p i i' j (j1 + x)
def COK (l : Launch) (Gr : zG) (n w d : Nat) (b : Nat → Int32) (t : Nat) (S S' : zS) (p i ws dp p' i' : Nat) : Prop := CS b t p' i' ws S' ∧ CK S S' i ws ∧ p < p' ∧ (i' + p ≤ i + p' ∧ i + wzb b t p < i' ∧ hxE S' i i' dp p p') ∧ okn (tk b t p') = 0 ∧ ∀ T q j m N X, HC b t q j dp m N X p T → CT l Gr n w d b t S' T p i p' i' j dp m X
def CBD (l : Launch) (Gr : zG) (n w d : Nat) (b : Nat → Int32) (t : Nat) (S S' : zS) (p dp : Nat) (f pl : Int32) : Prop := CB S S' f pl ∧ ∀ T q j m N X, HC b t q j dp m N X p T → ZF l Gr n w d b t T f pl
/-- ahead of an EXPR: c colons wait -/
def HE (b : Nat → Int32) (t q j dp m N X c p : Nat) (T : zS) : Prop := MC b t q j dp m N T ∧ gp b t q = p ∧ bud b t X j m N q ∧ c ≤ m ∧ c ≤ dp ∧ (∀ k, k < c → T.1 83 (m - 1 - k) = 4) ∧ (c = m ∨ (¬ T.1 83 (m - 1 - c) = 4 ∧ ¬ T.1 83 (m - 1 - c) = 1)) ∧ (m = 0 ∨ ¬ T.1 83 (m - 1) = 2)
def ET (l : Launch) (Gr : zG) (n w d : Nat) (b : Nat → Int32) (t : Nat) (S' T : zS) (p i p' i' j dp m X c : Nat) : Prop := ∃ T' q' x os j1 e N', RX l Gr n w d T 1 T' 0 ∧ MC b t q' j1 (dp + e) (m + e + x) N' T' ∧ gp b t q' = p' ∧ MK b t T T' j m ∧ bud b t X j1 (m + e + x) N' q' ∧ bins T' (m + e) x os ∧ dp + e ≤ 31 ∧ j < j1 ∧ ¬ T'.1 78 (j1 - 1) = 8 ∧ (∀ k, k < c + e → T'.1 83 (m + e - 1 - k) = 4) ∧
  ∀ Y, MK b t T' Y j1 (m + e + x) → gX w S' (mCo (c + e) (mRd x Y j1 (m + e + x)) (j1 + x) (dp + e) (m + e)) (nid b t T') p i i' j (j1 + x + e) ∧ ∀ k, k < c → (mCo (c + e) (mRd x Y j1 (m + e + x)) (j1 + x) (dp + e) (m + e)).1 78 (j1 + x + e + k) = 14 ∧ (mCo (c + e) (mRd x Y j1 (m + e + x)) (j1 + x) (dp + e) (m + e)).1 81 (j1 + x + e + k) = T.1 85 (m - 1 - k)
def EOK (l : Launch) (Gr : zG) (n w d : Nat) (b : Nat → Int32) (t : Nat) (S S' : zS) (p i ws dp p' i' : Nat) : Prop := CS b t p' i' ws S' ∧ CK S S' i ws ∧ p < p' ∧ (i' + p ≤ i + p' ∧ i + wzb b t p < i' ∧ hxE S' i i' dp p p') ∧ okn (tk b t p') = 0 ∧ ¬ tk b t p' = 63 ∧ ∀ T q j m N X c, HE b t q j dp m N X c p T → ET l Gr n w d b t S' T p i p' i' j dp m X c
def EBD (l : Launch) (Gr : zG) (n w d : Nat) (b : Nat → Int32) (t : Nat) (S S' : zS) (p dp : Nat) (f pl : Int32) : Prop := CB S S' f pl ∧ ∀ T q j m N X c, HE b t q j dp m N X c p T → ZF l Gr n w d b t T f pl
section SIM
variable {l : Launch} {Gr : zG} {n w : Nat} {d : Nat} {b : Nat → Int32} {t p i ws dp p' i' q j m N X u : Nat} {S S' T T' : zS}
theorem ZF_of {f pl : Int32} {x : Int32} {T2 : zS} (h1 : RX l Gr n w d T 1 T' x) (h2 : EX l Gr n w d T' x T2) (h3 : T2.1 73 7 = f) (h4 : T2.1 73 8 = pl) (h5 : MK b t T T2 0 0) : ZF l Gr n w d b t T f pl := ⟨T2, RX_EX h1 h2, h3, h4, h5⟩
theorem mSg_k {k : Nat} (h : k ≠ 13 ∧ k ≠ 19 ∧ k ≠ 20) : ∀ u (T : zS) j dp m, (mSg u T j dp m).1 73 k = T.1 73 k
  | 0, T, j, dp, m => rfl
  | u + 1, T, j, dp, m => by
    show (mSg u _ _ _ _).1 73 k = _
    rw [mSg_k h u, mP_k h.1, zi_k h.2.1, zi_k h.2.2]
theorem mCo_k {k : Nat} (h : k ≠ 13 ∧ k ≠ 19 ∧ k ≠ 20) : ∀ u (T : zS) j dp m, (mCo u T j dp m).1 73 k = T.1 73 k
  | 0, T, j, dp, m => rfl
  | u + 1, T, j, dp, m => by
    show (mCo u _ _ _ _).1 73 k = _
    rw [mCo_k h u, mP_k h.1, zi_k h.2.1, zi_k h.2.2]
/-- an operand that is one piece: the signs settle behind it -/
theorem fo_1 (hg : ip_gk (lg_tbl, vwCl, Gr)) (h : HF b t q j dp m N X u p T) (hdp : dp ≤ 30) {q' j1 N' : Nat} (hto : zMi l Gr (zc n w) 168 M_Mo_takeOperand (d + 9) [.ref 105] T (fun a A => a = 1 ∧ A = T')) (hM : MC b t q' j1 dp m N' T') (hK : MK b t T T' j m) (hgp : gp b t q' = p') (hb : bud b t X j1 m N' q') (hX : gX w S' T' (nid b t T') p i i' j j1) : FT l Gr n w d b t S' T p i p' i' j dp m X u := by
  obtain ⟨hC, hgq, hbd, hum, hud, hu, hb2⟩ := h
  have hq' := hM.1.2.2.2.1
  have ht := hM.1.2.2.2.2
  have b1 := hb.1
  have b2 := hb.2.1
  have w83 : ∀ k, k < m → T'.1 83 k = T.1 83 k := fun k hk => (hK.2.1 k hk).1
  have hu' : ∀ k, k < u → T'.1 83 (m - 1 - k) = 2 := fun k hk => by rw [w83 _ (by omega)]; exact hu k hk
  have hb' : u = m ∨ ¬ T'.1 83 (m - 1 - u) = 2 := by
    by_cases e : u = m
    · exact Or.inl e
    · right
      rw [w83 _ (by omega)]
      exact hb2.elim (fun z => absurd z e) id
  have hs := wm_signsOver (l := l) (Gr := Gr) (n := n) (w := w) (d := d + 8) hg hum hud (by omega) (by omega) (by omega) hM.2.2.1 hM.2.2.2.1 hM.2.2.2.2.1 hu' hb'
  have hMK := mSg_MK (b := b) (t := t) (j0 := j1) (m0 := m) u T' j1 dp m (Nat.le_refl _)
  have hbx := gX_bnd hX
  refine ⟨mSg u T' j1 dp m, q', j1, N', rx_1 hg hC.2.1 hto (by rw [hM.2.2.2.2.1, hC.2.2.2.2.1]) hs, mSg_MC u T' j1 dp m hM hum hud, hgp, MK_tr (MK_le hK (Nat.le_refl _) (by omega)) (MK_le hMK (by omega) (by omega)), ⟨by omega, by omega, hb.2.2⟩, gX_cong hMK.2.2.2.2.2 hX cgS_rfl (fun k q1 q2 => hMK.1 k (Nat.zero_le _) q2), fun k hk => ?_⟩
  have r := mSg_r u T' j1 dp m k hk
  have k2 := hK.2.1 (m - 1 - k) (by omega)
  exact ⟨r.1, r.2.1.trans k2.2.1, r.2.2.trans k2.2.2.1⟩
/-- an operand at which the reference fails, with answer 1 -/
theorem fo_1F (hg : ip_gk (lg_tbl, vwCl, Gr)) (h : HF b t q j dp m N X u p T) (hdp : dp ≤ 30) {j1 : Nat} {f pl : Int32} (hto : zMi l Gr (zc n w) 168 M_Mo_takeOperand (d + 9) [.ref 105] T (fun a A => a = 1 ∧ A = T')) (h13 : T'.1 73 13 = nI j1) (hj : j1 + u ≤ 12000) (h19 : T'.1 73 19 = nI dp) (h20 : T'.1 73 20 = nI m) (hm : m ≤ 4100) (hK : MK b t T T' j m) (hf : ¬ f = 0) (h7 : T'.1 73 7 = f) (h8 : T'.1 73 8 = pl) : ZF l Gr n w d b t T f pl := by
  obtain ⟨hC, hgq, hbd, hum, hud, hu, hb2⟩ := h
  have w83 : ∀ k, k < m → T'.1 83 k = T.1 83 k := fun k hk => (hK.2.1 k hk).1
  have hu' : ∀ k, k < u → T'.1 83 (m - 1 - k) = 2 := fun k hk => by rw [w83 _ (by omega)]; exact hu k hk
  have hb' : u = m ∨ ¬ T'.1 83 (m - 1 - u) = 2 := by
    by_cases e : u = m
    · exact Or.inl e
    · right
      rw [w83 _ (by omega)]
      exact hb2.elim (fun z => absurd z e) id
  have hs := wm_signsOver (l := l) (Gr := Gr) (n := n) (w := w) (d := d + 8) hg hum hud hm (by omega) hj h13 h19 h20 hu' hb'
  have hMK := mSg_MK (b := b) (t := t) (j0 := 0) (m0 := 0) u T' j1 dp m (Nat.zero_le _)
  have g7 : (mSg u T' j1 dp m).1 73 7 = f := by rw [mSg_k (by decide)]; exact h7
  exact ZF_of (rx_1 hg hC.2.1 hto (by rw [h20, hC.2.2.2.2.1]) hs) (EX_f (by rw [g7]; exact hf)) g7 (by rw [mSg_k (by decide)]; exact h8) (MK_tr (MK_le hK (Nat.zero_le _) (Nat.zero_le _)) hMK)
/-- an EXPR with nothing of its own kind behind it: up to what closes it -/
def E0 (l : Launch) (Gr : zG) (n w d : Nat) (b : Nat → Int32) (t : Nat) (S' T : zS) (p i p' i' j dp m X : Nat) : Prop := ∃ T' Y q' j1 d1 m1 j' N', RX l Gr n w d T 1 T' 0 ∧ MC b t q' j1 d1 m1 N' T' ∧ gp b t q' = p' ∧ (∀ Q, zW l Gr (zc n w) 168 M_Mo_closes (d + 9) 51 [some (.ref 105), some (.int 0), some (.int 0), none, none, none, none] [] Y Q → zW l Gr (zc n w) 168 M_Mo_closes (d + 9) 0 [some (.ref 105), some (.int 0), none, none, none, none, none] [] (zi T' 73 6 (nI p')) Q) ∧ MC b t p' j' dp m N' Y ∧ MK b t T Y j m ∧ bud b t X j' m N' p' ∧ gX w S' Y (nid b t Y) p i i' j j' ∧ Y.1 73 25 = 0
theorem E0_of (hg : ip_gk (lg_tbl, vwCl, Gr)) (hdp : dp ≤ 30) (h : HE b t q j dp m N X 0 p T) (hE : ET l Gr n w d b t S' T p i p' i' j dp m X 0) : E0 l Gr n w d b t S' T p i p' i' j dp m X := by
  obtain ⟨T', q', x, os, j1, e, N', rx, hM, hgp, hK, hb, hbin, he, hj, hl, hco, hY⟩ := hE
  obtain ⟨hC, hgq, hbd, -, -, -, htop, -⟩ := h
  have hM' := MC_p hM hgp
  have hp' := hM'.1.2.2.2.1
  have ht := hM'.1.2.2.2.2
  have hqp : q' ≤ p' := by rw [← hgp]; exact gp_ge hM.1.2.2.2.1
  have hb' := bud_le hb hqp
  have b1 := hb'.1
  have b2 := hb'.2.1
  rw [Nat.zero_add] at hco hY
  have mk0 : MK b t T' (zi (zi T' 73 6 (nI p')) 73 25 0) j1 (m + e + x) := MK_tr (MK_zi (by omega)) (MK_zi (by omega))
  obtain ⟨hX, -⟩ := hY _ mk0
  obtain ⟨Y, eY⟩ : ∃ Y, Y = mRA (zi T' 73 6 (nI p')) x e j1 (dp + e) (m + e) := ⟨_, rfl⟩
  have eY' : Y = mCo e (mRd x (zi (zi T' 73 6 (nI p')) 73 25 0) j1 (m + e + x)) (j1 + x) (dp + e) (m + e) := eY
  rw [← eY'] at hX
  have hMr := mRd_MC x _ j1 (m + e + x) (MC_25 (v := 0) hM') (by omega)
  rw [show m + e + x - x = m + e by omega] at hMr
  have hMY := mCo_MC e _ (j1 + x) (dp + e) (m + e) hMr (by omega) (by omega)
  rw [← eY', show dp + e - e = dp by omega, show m + e - e = m by omega] at hMY
  have mkY : MK b t T' Y j1 (m + e + x) := by
    rw [eY']
    exact MK_tr mk0 (MK_tr (mRd_MK x _ j1 _ (Nat.le_refl _)) (mCo_MK e _ (j1 + x) _ _ (by omega)))
  refine ⟨T', Y, q', j1, dp + e, m + e + x, j1 + x + e, N', rx, hM, hgp, fun Q k => ?_, hMY, MK_tr hK (MK_le mkY (by omega) (by omega)), ⟨by omega, by omega, hb'.2.2⟩, gX_cong mkY.2.2.2.2.2 hX cgS_rfl cgT_rfl, ?_⟩
  · have w83 : ∀ k, (zi T' 73 6 (nI p')).1 83 k = T'.1 83 k := fun k => zi_c (by decide)
    have w84 : ∀ k, (zi T' 73 6 (nI p')).1 84 k = T'.1 84 k := fun k => zi_c (by decide)
    rw [eY] at k
    refine cl_0 (d := d + 6) (os := os) (x := x) (c := e) (m := m + e) hg hM' (by omega) (by omega) (by omega) (by omega) (by omega) (by omega) (fun k hk => by rw [w83, w84]; exact hbin k hk) (fun k hk => by rw [w83]; exact hco k hk) ?_ (by rw [zi_c (by decide)]; exact hl) k
    by_cases z : m = 0
    · left; omega
    · right
      rw [w83, show m + e - 1 - e = m - 1 by omega, (hK.2.1 (m - 1) (by omega)).1]
      rcases htop with htop | htop
      · omega
      · rw [show m - 1 - 0 = m - 1 by omega] at htop
        exact htop
  · rw [eY', mCo_k (by decide), mRd_k (by decide)]
    exact zi_v
end SIM
