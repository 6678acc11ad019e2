/-! SORTS of one EXPR on both sides: the ARGUMENTs of a call -/
def EXH (l : Launch) (Gr : zG) (n w d : Nat) (b : Nat → Int32) (t N D m f : Nat) (A : Nat → Nat → Prop) (sz mz : Nat) (S0 T0 : zS) (K : Nat) : Prop := ∀ p i i' j j' tp mp c S T, gE w S0 T0 (nid b t T0) K p i i' j j' → cgS S0 S i i' → cgT T0 T j j' → (∀ v p, nid b t T0 v p → nid b t T v p) → LX b t N D m f A tp mp c sz mz S T → i' ≤ sz → j' ≤ mz → HB S0 i i' tp mp c → EXO l Gr n w d b t N D m f A tp mp c sz mz S T p i i' j j'
section LAg
variable {l : Launch} {Gr : zG} {n w : Nat} {d : Nat} {A : Nat → Nat → Prop} {b : Nat → Int32} {t N D m f tp mp c sz mz p p1 i i' i1 j j' j1 x u d' aa q r K : Nat} {S0 S S1 T0 T T1 : zS}
theorem gA_ne2 {ni : Nat → Nat → Prop} {hd cl : Nat} : ∀ k i i' j j', gA S0 T0 (gE w S0 T0 ni K) hd cl k i i' j j' → i' ≤ 4000 → NE S0 i i' 0 k
  | 0, i, i', j, j', h, _ => by
    rw [h.1]
    exact NE_nil
  | k + 1, i, i', j, j', h, hb => by
    obtain ⟨i1, j1, p1, i2, j2, h1, h2, e1, e2, s4, -⟩ := h
    have b2 := gE_bnd K _ _ _ _ _ h2
    have a1 := gA_ne2 k _ _ _ _ h1 (by omega)
    have c1 := (gE_ne K _ _ _ _ _ h2 (by omega)).1
    rw [e1]
    exact NE_eq (NE_app (NE_app a1 c1) (NE_1 (e1 := -1) (e2 := 0) s4 (by decide) (by decide) (by decide))) (by omega) (by omega)
theorem ex_args (hg : ip_gk (lg_tbl, vwCl, Gr)) (IH : EXH l Gr n w d b t N D m f A sz mz S0 T0 K) (hL : LX b t N D m f A tp mp (c + 1) sz mz S1 T1) (hC : CLS A S1 T1 D m i c mp u d' aa q r) (hni : ∀ v p, nid b t T0 v p → nid b t T1 v p) (hc : c < 400) (hsz : i' ≤ sz) (hmz : j' ≤ mz) (cs : cgS S0 S1 (i + 1) i') (ct : cgT T0 T1 (j + 2) j') (hB : HB S0 (i + 1) i' tp mp (c + 1)) : ∀ k i1 j1, k ≤ aa → i1 ≤ i' → j1 ≤ j' → gA S0 T0 (gE w S0 T0 (nid b t T0) K) i (j + 1) k (i + 1) i1 (j + 2) j1 →
    (∃ S2 T2, CG l Gr n w d S1 (i + 1) S2 i1 ∧ S2 = kR b t (i1 - (i + 1)) (i + 1) S1 ∧ RG l Gr n w d T1 (j + 2) T2 j1 ∧ LX b t N D m f A tp (mp + k) (c + 1) sz mz S2 T2 ∧ KKc S1 S2 (i + 1) i1 tp ∧ KKm T1 T2 (j + 2) j1 mp (c + 1) ∧ aA S2 T2 (fun r i i' j j' => aX w D A r S2 T2 i i' j j') d' k (i + 1) i1 (j + 2) j1) ∨ FLT l Gr n w d b t S1 T1 (i + 1) i1 (j + 2) := by
  have hs4 := hL.2.1.2.1
  have hm4 := hL.2.2.2.1.2.1
  intro k
  induction k with
  | zero =>
    intro i1 j1 _ _ _ h
    rw [h.1, h.2]
    exact Or.inl ⟨S1, T1, CG_rfl, by rw [Nat.sub_self]; rfl, RG_rfl, hL, KKc_rfl, KKm_rfl, rfl, rfl⟩
  | succ k ih =>
    intro i1 j1 hk hi1 hj1 h
    obtain ⟨i2, j2, p1, i3, j3, h1, h2, e1, e2, s4, s5, s6, s7, t8, t9⟩ := h
    have b1 := gA_bnd (gE_bnd K) _ _ _ _ _ h1
    have b2 := gE_bnd K _ _ _ _ _ h2
    have ne1 := gA_ne2 k _ _ _ _ h1 (by omega)
    have ne2 := (gE_ne K _ _ _ _ _ h2 (by omega)).1
    rcases ih i2 j2 (by omega) (by omega) (by omega) h1 with ⟨S2, T2, a1, a2, a3, a4, a5, a6, a7⟩ | hF
    · have r2 := HB_sub (tp' := tp) (c' := c + 1) (mp' := mp + k) (i2 := i3) hB ne1 (by omega) (by omega) (by omega)
      have cs2 := cg_c (i2 := i2) (i' := i') (cgS_sub cs (by omega) (Nat.le_refl _)) a5 (Nat.le_refl _)
      have ct2 := cg_m (j2 := j2) (j' := j') (cgT_sub ct (by omega) (Nat.le_refl _)) a6 (Nat.le_refl _)
      rcases IH p1 i2 i3 j2 j3 tp (mp + k) (c + 1) S2 T2 h2 (cgS_sub cs2 (Nat.le_refl _) (by omega)) (cgT_sub ct2 (Nat.le_refl _) (by omega)) (fun v p hv => nid_m (hni v p hv) a6) a4 (by omega) (by omega) r2 with ⟨S3, T3, c1, c2, c3, c4, c5, c6, P3⟩ | hF
      · have at3 := HB_at r2 ne2 (Nat.le_refl _)
        have kc3 : KKc S1 S3 (i + 1) i3 tp := KKc_tr a5 c5 (by omega) (by omega) (Nat.le_refl _)
        have km3 : KKm T1 T3 (j + 2) j3 mp (c + 1) := KKm_tr a6 c6 (by omega) (by omega) (by omega) (Nat.le_refl _)
        have cs3 := cg_c (i2 := i3) (i' := i') (cgS_sub cs2 (by omega) (Nat.le_refl _)) c5 (Nat.le_refl _)
        have ct3 := cg_m (j2 := j3) (j' := j') (cgT_sub ct2 (by omega) (Nat.le_refl _)) c6 (Nat.le_refl _)
        have q0 := cs3 i3 (Nat.le_refl _) (by omega)
        have q1 := ct3 j3 (Nat.le_refl _) (by omega)
        have k3 := kR_cat a2 c2 (by omega) (by omega)
        rcases ex_arg (l := l) (Gr := Gr) (n := n) (w := w) (d := d) (k := k) (o := j + 1) (i2 := i3) (j2 := j3) hg c4 (by omega) (by omega) hc (by omega) (by omega) (by omega) (CLS_k hC kc3 km3 (by omega) (by omega)) (by omega) P3 (q0.1.trans s4) (q0.2.1.trans s5) (q0.2.2.1.trans s6) (q0.2.2.2.trans s7) (q1.1.trans t8) (q1.2.1.trans t9) (by omega) with ⟨S4, g1, g2, g3, g4, g5, rk, hrk, g12, gx⟩ | hF
        · left
          rw [e1, e2]
          refine ⟨S4, T3, CG_tr a1 (CG_tr c1 g1), ?_, RG_tr a3 (RG_tr c3 g3), g4, KKc_tr kc3 g5 (by omega) (by omega) (Nat.le_refl _), ⟨fun c' k q1 q2 q3 q4 => km3.1 c' k q1 q2 (by omega) q4, km3.2⟩, i2, j2, rk, i3, j3, ?_, hrk, gx, rfl, rfl, g12, (g5.1 4 i3 (by omega) (by omega) (by omega) (by omega)).trans (q0.1.trans s4), q1.1.trans t8⟩
          · rw [g2]
            exact kR_s k3 c4.2.1.2.2 (by omega)
          · have y1 : aA S3 T3 (fun r i i' j j' => aX w D A r S3 T3 i i' j j') d' k (i + 1) i2 (j + 2) j2 := aA_cong (fun _ _ _ _ _ y => aX_bnd y) (fun _ _ _ _ _ y q1 q2 => aX_k y q1 q2) _ _ _ _ _ a7 (anS_k c5 (Or.inl (Nat.le_refl _))) (anT_k c6 (Or.inl (Nat.le_refl _)))
            exact aA_cong (fun _ _ _ _ _ y => aX_bnd y) (fun _ _ _ _ _ y q1 q2 => aX_k y q1 q2) _ _ _ _ _ y1 (anS_k g5 (Or.inl (by omega))) anT_rfl
        · right
          rw [e1]
          exact FLT_pre (CG_tr a1 c1) k3 (RG_tr a3 c3) (by omega) hF
      · exact Or.inr (FLT_pre a1 a2 a3 (by omega) (FLT_up hF (by omega)))
    · exact Or.inr (FLT_up hF (by omega))
end LAg
