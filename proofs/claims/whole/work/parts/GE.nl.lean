/-! behind compile(): mean() says what the circuit reckons -/
section MEE
variable {l : Launch} {Gr : zG} {n w q : Nat} {S S0 S1 S2 B Z : zS} {x : Int32} {Inv : zS → Prop} {V : Nat → Nat} {wb G iw : Nat} {vm : Nat → Nat}
theorem tdV_tb (b : Nat → Nat) (v : Nat) : ∀ m, (∀ j, j < m → b j = (v.testBit j).toNat) → tdV b m = v % 2 ^ m
  | 0, _ => by rw [Nat.pow_zero, Nat.mod_one]; rfl
  | m + 1, h => by
    show tdV b m + b m * 2 ^ m = _
    rw [tdV_tb b v m (fun j hj => h j (by omega)), h m (by omega), Nat.mod_pow_succ, Nat.toNat_testBit, Nat.mul_comm]
/-- the circuit's own values are V -/
theorem cvG_V (hwb : wb ≤ 8192) (hG : G ≤ 40000) (hr : ∀ c k, c = 111 ∨ c = 113 ∨ c = 114 → B.1 c k = Z.1 c k) (hv : ∀ g, g < G → (∃ a, a < 2 * (wb + g) ∧ Z.1 113 g = nI a) ∧ ∃ b, b < 2 * (wb + g) ∧ Z.1 114 g = nI b) (hC : ∀ g, g < G → V (wb + g) = if gAn Z g = true then litV V (Z.1 113 g) * litV V (Z.1 114 g) else (litV V (Z.1 113 g) + litV V (Z.1 114 g)) % 2) : ∀ g, g ≤ G → ∀ t, t < wb + g → cvG B V wb g t = V t
  | 0, _, t, _ => rfl
  | g + 1, hg, t, ht => by
    have ih := cvG_V hwb hG hr hv hC g (by omega)
    show (if t = wb + g then (if B.1 111 g = 1 then litV (cvG B V wb g) (B.1 113 g) * litV (cvG B V wb g) (B.1 114 g) else (litV (cvG B V wb g) (B.1 113 g) + litV (cvG B V wb g) (B.1 114 g)) % 2) else cvG B V wb g t) = V t
    by_cases z : t = wb + g
    · rw [if_pos z, z, hC g (by omega)]
      obtain ⟨⟨a, ha, ea⟩, b, hb, eb⟩ := hv g (by omega)
      rw [hr 111 g (by omega), hr 113 g (by omega), hr 114 g (by omega), ea, eb, lit_cg (wb := wb + g) ha (by omega) ih, lit_cg (wb := wb + g) hb (by omega) ih]
      unfold gAn
      by_cases y : Z.1 111 g = 1
      · rw [if_pos y, decide_eq_true y, if_pos rfl]
      · rw [if_neg y, decide_eq_false y, if_neg (by decide)]
    · rw [if_neg z]
      exact ih t (by omega)
theorem MEd_A (hn : 2 ≤ n ∧ n ≤ 16) (hw : 1 ≤ w ∧ w ≤ 32) (hk : iCk n w (zmx S1 S2)) (h : MEd n w S1 S2) : MEA n w (zmx S1 S2) := by
  obtain ⟨S6, T6, B, iw0, j, hIc, f6, r, hc, h82, h13, hj, h65, hwb, meb⟩ := h
  generalize zmx S1 S2 = Z at *
  intro G wb iw no hs l2 Gr2 d2 X vm V hg2 hX hX2 hv hC
  obtain ⟨G', wb', iw', hF⟩ := dl_f hn.2 hw hk
  obtain ⟨g0, Dm0, iw2, no0, bo, ceq, hno, ou, -⟩ := hk
  obtain ⟨s1, s2, s3, s4, s5, s6, s7, s8⟩ := hs
  have hF' := hF
  obtain ⟨f1, f2, f3, f4, f5, f6', f7, f8, f9, f10, f11, f12, f13, f14⟩ := hF'
  have hwb' : wb' ≤ 8192 := by
    have : 256 * w ≤ 256 * 32 := Nat.mul_le_mul_left _ hw.2
    omega
  have eG : G' = G := (nI_eq (by omega) (by omega)).mp (f7.symm.trans s5)
  have ew : wb' = wb := (nI_eq (by omega) (by omega)).mp (f9.symm.trans s6)
  have ei : iw' = iw := (nI_eq (by omega) (by omega)).mp (f5.symm.trans s7)
  subst eG ew ei
  have eiw : iw0 = iw' := by
    have := hIc.1
    have e := (f6 17 6 (by omega) (by omega)).symm.trans f5
    exact (nI_eq (by omega) (by omega)).mp (hIc.2.1.symm.trans e)
  subst eiw
  have ewb : iW S6 iw0 = wb' := (nI_eq (by omega) (by omega)).mp (h65.symm.trans ((r 73 65 (by omega) (by omega) (by omega)).symm.trans f10))
  have eB : ∀ a, iB Z a = iB S6 a := fun a => by unfold iB; rw [f6 19 a (by omega) (by omega)]
  have eW : ∀ a, iW S6 a = Wb (iB Z) a := fun a => by
    rw [iW_Wb]
    have : iB S6 = iB Z := funext fun a => (eB a).symm
    rw [this]
  have hcd : ∀ c k, (c = 73 ∧ k = 13) ∨ (78 ≤ c ∧ c ≤ 80) ∨ c = 89 ∨ (102 ≤ c ∧ c ≤ 104) → (zi (zi (zi X 73 115 0) 73 118 0) 73 110 0).1 c k = T6.1 c k := fun c k q => by
    rw [zi_get, if_neg (by omega), zi_get, if_neg (by omega), zi_get, if_neg (by omega), hX c k q, r c k (by omega) (by omega) (by omega), hc c k q]
  have md : MD T6 (zi (zi (zi X 73 115 0) 73 118 0) 73 110 0) := ⟨hcd 73 13 (by omega), fun c k q => hcd c k (by omega), fun k => (hX2 k).trans (h82 k)⟩
  obtain ⟨C', no1, ng, fc, g9, g69, G1, hG1, g66, gv⟩ := meb l2 Gr2 (d2 + 7) (zi (zi (zi X 73 115 0) 73 118 0) 73 110 0) vm V hg2 md (by rw [zi_k (by decide), zi_k (by decide)]; exact zi_v) (by rw [zi_k (by decide)]; exact zi_v) zi_v (fun a ha => by
    obtain ⟨v1, v2⟩ := hv a ha
    refine ⟨by rw [← eB]; exact v1, ?_⟩
    unfold inW
    rw [zi_k (by decide), zi_k (by decide), zi_k (by decide)]
    exact v2) hC.1 (fun a j ha hj => by rw [eW]; exact hC.2.1 a j ha (by rw [eB]; exact hj))
  have eG1 : G1 = G' := (nI_eq (by omega) (by omega)).mp (g66.symm.trans ((r 73 66 (by omega) (by omega) (by omega)).symm.trans f8))
  subst eG1
  rw [ewb] at gv
  obtain ⟨o11, o69, b0, o31, ot⟩ := ou
  have en0 : no0 = no := (nI_eq (by omega) (by omega)).mp (o11.symm.trans s8)
  subst en0
  have en1 : no1 = no0 := (nI_eq (by omega) (by omega)).mp (g69.symm.trans ((r 73 69 (by omega) (by omega) (by omega)).symm.trans o69))
  subst en1
  have eV := cvG_V (B := B) (Z := Z) (V := V) (wb := wb') (G := G1) hwb' f1 (fun c k q => (r c k (by omega) (by omega) (by omega)).symm) f13 hC.2.2 G1 (Nat.le_refl _)
  refine e_Mo_mean (b_Mo_mean_0 (ng _ (b_Mo_mean_17 (fun _ => b_Mo_mean_53 ⟨rfl, ?_, zi_v, ?_, ?_⟩) (fun y => absurd ?_ y))))
  · intro k m hk hm h120
    obtain ⟨m', v, q1, q2, q3, q4, q5⟩ := gv k hk
    have em : m' = m := (nI_eq (by omega) (by omega)).mp (q2.symm.trans ((r 120 k (by omega) (by omega) (by omega)).symm.trans h120))
    subst em
    show C'.2 149 k = _
    rw [q4, tdV_tb _ v m' (fun x hx => ?_), Nat.mod_eq_of_lt q3]
    rw [← q5 x hx, r 121 _ (by omega) (by omega) (by omega)]
    obtain ⟨m2, p1, p2, -, p4⟩ := ot k hk
    have em2 : m2 = m' := (nI_eq (by omega) (by omega)).mp (p2.symm.trans h120)
    subst em2
    have hvc := (p4 x hx).2
    rw [r 121 _ (by omega) (by omega) (by omega)] at hvc
    by_cases z : B.1 121 (32 * k + x) < 0
    · rw [litV_c z, litV_c z]
    · obtain ⟨a, ha, e⟩ := nI_of z
      rw [e] at hvc ⊢
      have hl := vc_lt f1 (by omega) f10 f8 ha hvc
      exact (lit_cg (wb := wb' + G1) hl (by omega) eV).symm
  · intro c k q1 q2
    rw [zi_get, if_neg (by omega), fc.1 c k (by omega) q2, zi_get, if_neg (by omega), zi_get, if_neg (by omega), zi_get, if_neg (by omega)]
  · intro c k q1
    show C'.2 c k = _
    rw [fc.2 c k q1]
    rfl
  · rw [fc.1 73 13 (by omega) (by omega), hcd 73 13 (by omega), h13]
    exact nI_le (Nat.le_refl _) (by omega)
/-- compile() on both: one answer, and the store behind it, in which mean() says what the circuit reckons -/
theorem o_comp2 (hg : ip_gk (lg_tbl, vwCl, Gr)) (ho : ip_old (lg_tbl, vwCl, Gr)) (hn : 2 ≤ n ∧ n ≤ 16) (hw : 1 ≤ w ∧ w ≤ 32) (hI : Inv S) (hR : iRT S) (hN : ∀ X, CPo n w S X → (X.1 73 83 = 1 → MEA n w X) → Inv X) : ∃ (v : Int32) (h1 : ip_H) (S3 : zS), ip_RnM l (lg_tbl, vwCl, Gr) M_H_compile (q + 302) [.ref 32] (zP (zc n w) 168 S) (some (.int v), h1) ∧ (∃ fs, ip_h h1 105 = some (.inr (12, fs))) ∧ ip_RnM l (lg_tbl, vwCl, Gr) M_Mo_compile (q + 302) [.ref 105] h1 (some (.int v), zP (zc n w) 168 S3) ∧ Inv S3 := by
  rcases cmp_all2 (l := l) (Gr := Gr) (q := q) hg ho hn hw hR with ⟨x0, S0, y, S1, S2, c0, c1, m0, k0, k1, h04, kd, h5, hc⟩ | ⟨x0, S0, c0, m0⟩
  · refine t_two hI c0 c1 m0 (fun c hc => ⟨funext fun k => kd.1 c k (by omega) (by omega) (by omega), funext fun k => kd.2.1 c k (by omega) (by omega)⟩) (hN _ (cp_o hR k0 k1 h04 kd h5 (hc.elim Or.inl (fun z => Or.inr z.1))) (fun z => ?_))
    rcases hc with ⟨-, -, -, -, -, b83, -⟩ | ⟨cg, me⟩
    · rw [zmx_r (by omega), b83] at z
      exact absurd z (by decide)
    · exact MEd_A hn hw (g_ck cg).1 me
  · exact ⟨x0, _, S, c0, zw_m0 n w S0, m0, hI⟩
/-- compile()'s turn -/
theorem o_comp3 (hg : ip_gk (lg_tbl, vwCl, Gr)) (ho : ip_old (lg_tbl, vwCl, Gr)) (hn : 2 ≤ n ∧ n ≤ 16) (hw : 1 ≤ w ∧ w ≤ 32) (S : zS) (hI : iAl n w S ∧ XTr n w S) : ∃ (v : Int32) (h1 : ip_H) (S3 : zS), ip_RnM l (lg_tbl, vwCl, Gr) M_H_compile (q + 302) [.ref 32] (zP (zc n w) 168 S) (some (.int v), h1) ∧ (∃ fs, ip_h h1 105 = some (.inr (12, fs))) ∧ ip_RnM l (lg_tbl, vwCl, Gr) M_Mo_compile (q + 302) [.ref 105] h1 (some (.int v), zP (zc n w) 168 S3) ∧ (iAl n w S3 ∧ XTr n w S3) := o_comp2 (Inv := fun X => iAl n w X ∧ XTr n w X) hg ho hn hw hI hI.1.1 (fun X hc me => ⟨al_cp hc hI.1.2.1, me, fun z => absurd hc.2.2.2.2.1 z, fun z => absurd (hc.2.2.2.2.2.1 119 (by omega)) z⟩)
end MEE
