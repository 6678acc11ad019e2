/-! compile() on both sides, with mean() beside the reference's build -/
/-- mean() says what the reference's build B of B0 reckons -/
def MEb (n w : Nat) (S B0 B : zS) (iw M : Nat) : Prop := ∀ (l2 : Launch) (Gr2 : zG) (d2 : Nat) (C : zS) (vm V : Nat → Nat), ip_gk (lg_tbl, vwCl, Gr2) → MD B0 C → C.1 73 115 = nI 0 → C.1 73 118 = nI 0 → C.1 73 110 = nI 0 → (∀ a, a < iw → vm a < 2 ^ iB S a ∧ inW C a = lN (vm a)) → (∀ t, V t = 0 ∨ V t = 1) → (∀ a j, a < iw → j < iB S a → V (iW S a + j) = vm a / 2 ^ j % 2) → ∃ C' no, NGo l2 Gr2 n w d2 C 0 C' M ∧ FCp C C' ∧ 9 * no ≤ 4000 ∧ B.1 73 69 = nI no ∧ ∃ G, G ≤ 40000 ∧ B.1 73 66 = nI G ∧ ∀ t, t < no → ∃ m v, (m = 1 ∨ m = w) ∧ B.1 120 t = nI m ∧ v < 2 ^ m ∧ C'.2 149 t = lN v ∧ ∀ x, x < m → litV (cvG B V (iW S iw) G) (B.1 121 (32 * t + x)) = (v.testBit x).toNat
/-- what MEA is made of, behind compile() -/
def MEd (n w : Nat) (S1 S2 : zS) : Prop := ∃ S6 T6 B iw j, Ic n w S6 iw ∧ (∀ c k, 17 ≤ c → c ≤ 23 → (zmx S1 S2).1 c k = S6.1 c k) ∧ (∀ c k, 73 ≤ c → ¬ (c = 73 ∧ (k = 5 ∨ k = 83 ∨ k = 145)) → ¬ (c = 155 ∨ c = 156 ∨ c = 167) → (zmx S1 S2).1 c k = B.1 c k) ∧ (∀ c k, (c = 73 ∧ k = 13) ∨ (78 ≤ c ∧ c ≤ 80) ∨ c = 89 ∨ (102 ≤ c ∧ c ≤ 104) → B.1 c k = T6.1 c k) ∧ (∀ k, (zmx S1 S2).2 82 k = T6.2 82 k) ∧ T6.1 73 13 = nI j ∧ j ≤ 12000 ∧ B.1 73 65 = nI (iW S6 iw) ∧ iW S6 iw ≤ 8192 ∧ MEb n w S6 T6 B iw j
def CMR2 (l : Launch) (Gr : zG) (n w d : Nat) (S : zS) : Prop := (∃ x0 S0 y S1 S2, ip_RnM l (lg_tbl, vwCl, Gr) M_H_compile d [.ref 32] (zP (zc n w) 168 S) (some (.int x0), zP (zc n w) 168 S0) ∧ ip_RnM l (lg_tbl, vwCl, Gr) M_H_compile d [.ref 32] (zP (zc n w) 168 S) (some (.int y), zP (zc n w) 168 S1) ∧ ip_RnM l (lg_tbl, vwCl, Gr) M_Mo_compile d [.ref 105] (zP (zc n w) 168 S0) (some (.int y), zP (zc n w) 168 S2) ∧ KCr S S0 ∧ KCr S S1 ∧ S1.1 0 4 = 0 ∧ KDr S0 S2 ∧ S2.1 73 5 = 0 ∧ (CMB n y S1 S2 ∨ (CMG n w y S1 S2 ∧ MEd n w S1 S2))) ∨ ∃ x0 S0, ip_RnM l (lg_tbl, vwCl, Gr) M_H_compile d [.ref 32] (zP (zc n w) 168 S) (some (.int x0), zP (zc n w) 168 S0) ∧ ip_RnM l (lg_tbl, vwCl, Gr) M_Mo_compile d [.ref 105] (zP (zc n w) 168 S0) (some (.int x0), zP (zc n w) 168 S)
section CMM
variable {l : Launch} {Gr : zG} {n w q d : Nat} {S S0 S5 S6 A T T' U X B B0 : zS} {b : Nat → Int32} {Av : Nat → Nat → Prop} {t k vw iw i j D N M p : Nat}
/-- build's end B is what mean() says, if build has a run -/
theorem me_two (hg : ip_gk (lg_tbl, vwCl, Gr)) (hw1 : 1 ≤ w) (hw : w ≤ 32) (hn : n ≤ 16) (cx : CTX S B0 N M) (h70 : B0.1 73 7 = 0) (hD : D ≤ 800) (hp : p ≤ 4000) (nu : ∀ x, x ≤ N → ur S x ≤ 30) (hIc : Ic n w S iw) (an : aP n w D S B0 (hxI S) k Av vw iw N M p) (run : zMv l Gr (zc n w) 168 M_Mo_build (d + 12) [.ref 105] B0 (fun X => X = B)) (h7 : B.1 73 7 = 0) (nev : ¬ ∀ r : Option Value × ip_H, r.2.length = 168 → ip_t r.2 = ip_t (zP (zc n w) 168 B0) → ip_RnM l (lg_tbl, vwCl, Gr) M_Mo_build (d + 12) [.ref 105] (zP (zc n w) 168 B0) r) : MEb n w S B0 B iw M := by
  intro l2 Gr2 d2 C vm V hg2 hC c115 c118 c110 hin hV hbit
  obtain ⟨_, X0, ⟨rfl, eX⟩, c0⟩ := run
  rw [eX] at c0
  obtain ⟨_, B2, ⟨rfl, hR⟩, c1⟩ := mb_mean (l := l) (l2 := l2) (n := n) (d := d) (d2 := d2) hg hg2 hw1 hw hn cx h70 hD hp nu hIc an hV hC c115 c118 c110 hin hbit
  rcases met_two c0 c1 (by rw [zP_l, zP_l]) zP_t with ⟨-, H, h1, h2⟩ | va
  rotate_left
  · exact absurd (fun r e1 e2 => va r (by rw [e1, zP_l]) (e2.trans zP_t)) nev
  have h1 : ip_St (lg_tbl, vwCl, Gr) (zP (zc n w) 168 B) H := h1
  have h2 : ip_St (lg_tbl, vwCl, Gr) (zP (zc n w) 168 B2) H := h2
  rw [zP_cz] at h1 h2
  have fe : ∀ k, (∀ (I : Nat → Int32) (J : Nat → Int64), (zf73 n w I J)[k]? = some (.int (I k))) → k < 146 → B.1 73 k = B2.1 73 k := fun k hf hk => fld_eq hf (h1.2 73 (by decide)) (h2.2 73 (by decide)) (fun r e => by
    have e' : vwCl[12]? = some (RX12, TX12, 146) := rfl
    have := Option.some.inj (e'.symm.trans e)
    rw [← this]
    exact hk)
  have e7 := fe 7 (fun _ _ => rfl) (by decide)
  have e66 := fe 66 (fun _ _ => rfl) (by decide)
  have e69 := fe 69 (fun _ _ => rfl) (by decide)
  have e65 := fe 65 (fun _ _ => rfl) (by decide)
  have r111 : ∀ k, k < 40000 → B.1 111 k = B2.1 111 k := fun k hk => row_eq (fun _ _ => rfl) (h1.2 111 (by decide)) (h2.2 111 (by decide)) hk
  have r112 : ∀ k, k < 40000 → B.1 112 k = B2.1 112 k := fun k hk => row_eq (fun _ _ => rfl) (h1.2 112 (by decide)) (h2.2 112 (by decide)) hk
  have r113 : ∀ k, k < 40000 → B.1 113 k = B2.1 113 k := fun k hk => row_eq (fun _ _ => rfl) (h1.2 113 (by decide)) (h2.2 113 (by decide)) hk
  have r114 : ∀ k, k < 40000 → B.1 114 k = B2.1 114 k := fun k hk => row_eq (fun _ _ => rfl) (h1.2 114 (by decide)) (h2.2 114 (by decide)) hk
  have r120 : ∀ k, k < 500 → B.1 120 k = B2.1 120 k := fun k hk => row_eq (fun _ _ => rfl) (h1.2 120 (by decide)) (h2.2 120 (by decide)) hk
  have r121 : ∀ k, k < 16000 → B.1 121 k = B2.1 121 k := fun k hk => row_eq (fun _ _ => rfl) (h1.2 121 (by decide)) (h2.2 121 (by decide)) hk
  rcases hR with y | ⟨C', no, g7, g9, gd, ng, fc, o1, o2, o3⟩
  · exact absurd (e7.symm.trans h7) y
  obtain ⟨hM, h65, hwb, G, hG, e, hv⟩ := gd
  refine ⟨C', no, ng, fc, g9, e69.trans o1, G, hG, e66.trans e, fun t ht => ?_⟩
  obtain ⟨m, v, q1, q2, q3, q4, q5⟩ := o3 t ht
  refine ⟨m, v, q1, (r120 t (by omega)).trans q2, q3, q4 trivial, fun x hx => ?_⟩
  have hx32 : x < 32 := by omega
  have := (q5 x hx g7 h65 hwb).2
  rw [r121 _ (by omega), cvG_cg (T := B2) (T' := B) (g := G) (fun c k a1 a2 a3 => ?_) G (Nat.le_refl _)]
  · unfold cvT at this
    rw [e, nI_clamp (by omega)] at this
    exact this
  · have : c = 111 ∨ c = 112 ∨ c = 113 ∨ c = 114 := by omega
    rcases this with rfl | rfl | rfl | rfl
    · exact r111 k (by omega)
    · exact r112 k (by omega)
    · exact r113 k (by omega)
    · exact r114 k (by omega)
theorem cmp_bad2 {x0 y : Int32} {S2 : zS} (c0 : ip_RnM l (lg_tbl, vwCl, Gr) M_H_compile d [.ref 32] (zP (zc n w) 168 S) (some (.int (A.1 3 5)), zP (zc n w) 168 (kIc n (zi A 0 4 0)))) (m0 : ip_RnM l (lg_tbl, vwCl, Gr) M_Mo_compile d [.ref 105] (zP (zc n w) 168 (kIc n (zi A 0 4 0))) (some (.int (X.1 73 7)), zP (zc n w) 168 (zi (zi X 73 83 0) 73 5 0))) (kA : KCr S A) (h14 : A.1 0 14 = 0) (hf : ¬ A.1 3 5 = 0) (kX : KDr (kIc n (zi A 0 4 0)) X) (e7 : X.1 73 7 = A.1 3 5) (e8 : X.1 73 8 = A.1 3 6) : CMR2 l Gr n w d S := by
  obtain ⟨a1, a2, a3, a4, a5⟩ := cm_bad (n := n) kA h14 hf kX e7 e8
  rw [e7] at m0
  exact Or.inl ⟨_, _, _, _, _, c0, c0, m0, a1, a1, a2, a3, a4, Or.inl a5⟩
theorem cmp_all2 (hg : ip_gk (lg_tbl, vwCl, Gr)) (ho : ip_old (lg_tbl, vwCl, Gr)) (hn : 2 ≤ n ∧ n ≤ 16) (hw : 1 ≤ w ∧ w ≤ 32) (hR : iRT S) : CMR2 l Gr n w (q + 302) S := by
  obtain ⟨t, ht, a1, a2, a3, a4⟩ := hR
  obtain ⟨b, hb⟩ : ∃ b, S.1 2 = b := ⟨_, rfl⟩
  obtain ⟨S5, h5, go⟩ := w_cmp1 (l := l) (Gr := Gr) (n := n) (w := w) (q := q) (dm := q + 287) (b := b) hg ho hn hw (fun k hk => by rw [← hb]; exact (a4 k hk).1) ht hb a1
  have hs : ∀ S0, KCr S S0 → HS b t 0 0 0 0 0 0 (gp b t 0) (mC1 S0) := fun S0 k => hs_0 ht ((k.1 73 5 (by omega) (by omega)).trans a2) (fun y hy => by rw [k.1 75 y (by omega) (by omega), (a4 y hy).2, hb])
  rcases h5 with ⟨i, D, vw, iw, cn, ic, jk, fam⟩ | ⟨f, pl, ⟨hf, e5, e6, jk⟩, fam⟩
  · obtain ⟨kr5, h14, h11, h12⟩ := kr_5 jk
    have h35 : S5.1 3 5 = 0 := CS_f cn.1
    have ws : zMv l Gr (zc n w) 168 M_Sorts_check (q + 295 + 6) [.ref 71] S5 _ := w_sorts (S0 := S5) (iw := iw) (d := q + 295) hg hn.2 cn h11 h12 fam
    have ws2 : zMv l Gr (zc n w) 168 M_Sorts_check (q + 297 + 6) [.ref 71] S5 _ := w_sorts (S0 := S5) (iw := iw) (d := q + 297) hg hn.2 cn h11 h12 fam
    obtain ⟨S6, e6⟩ : ∃ S6, S6 = kR b t i 0 (kIni S5) := ⟨_, rfl⟩
    have run6 : zMv l Gr (zc n w) 168 M_Sorts_check (q + 301) [.ref 71] S5 (fun X => X = S6) := zMv_imp ws (fun X h => h.1.trans e6.symm)
    obtain ⟨_, X, ⟨-, eX, kg, so⟩, -⟩ := ws2
    rw [← e6] at eX
    subst eX
    have a7 : ∀ T' k A j, aP n w D X T' (hxL S5) k A vw iw i j t → aP n w D X T' (hxI X) k A vw iw i j t := fun T' k A j => by rw [e6]; exact aP_7
    obtain ⟨kr6, h14'⟩ := kr_6 kr5 kg
    rw [h14] at h14'
    have hM : ∀ T T', (∀ Q : Option Value → zS → Prop, Q none T' → zW l Gr (zc n w) 168 M_Mo_sorts (q + 297 + 4) 0 [some (.ref 105), none] [] T Q) → zMv l Gr (zc n w) 168 M_Mo_sorts (q + 301) [.ref 105] T (fun X => X = T') := fun T T' r => e_Mo_sorts (r _ ⟨rfl, rfl⟩)
    by_cases z : X.1 3 5 = 0
    · have hIc := Ic_6 ic kg
      have h34 : X.1 3 4 = nI i := (kg.1 3 4 (by omega)).trans cn.1.2.2.2.2.2.1
      have hi : i ≤ 4000 := by have := cn.2.2.2.2.1; omega
      have hD : D ≤ 800 := by have := cn.2.2.2.2.2.1; omega
      have hj : ∀ j N T, HS b t t j 0 N vw iw t T → j ≤ 12000 := fun j N T h => by have := h.2.2.1; omega
      have run : ∀ R : Int32 → zS → Prop, zW l Gr (zc n w) 168 M_H_compile (q + 302) 78 [some (.ref 32)] [] X (fun v S' => ∃ x, v = some (.int x) ∧ R x S') → zMi l Gr (zc n w) 168 M_H_compile (q + 302) [.ref 32] S R := fun R h => go R (c_sort hg hn.2 h35 run6 (fun y => absurd z y) (fun _ => h))
      have c0 : ∃ x0 S0, KCr S S0 ∧ ip_RnM l (lg_tbl, vwCl, Gr) M_H_compile (q + 302) [.ref 32] (zP (zc n w) 168 S) (some (.int x0), zP (zc n w) 168 S0) := by
        obtain ⟨T, j, N, k, -, hH, -, g⟩ := fam (fkT b t) (fk_HS ht)
        rcases so T j N k hH g with ⟨-, m, A, P, T', -, h7, -, km, -, an⟩ | ⟨hf, -⟩
        · obtain ⟨A', x, S1, hA, c⟩ := cls_b (l := l) (Gr := Gr) (q := q) (T' := mFk X iw T') (k := k) (Av := A) (vw := vw) (D := D) (t := t) hg ho hn.2 hw.1 hw.2 hD (Nat.le_trans (gP_k _ _ _ _ _ _ _ g) ht) ht hi (hj _ _ _ hH) h34 z hIc run ((mFk_n (by omega) (by omega)).trans ((km.1 73 13 (by omega)).trans (MC_13 hH.1.1))) (mFk_B h7) (fun a _ => mFk_117) (aP_T (fun c x hc => mFk_n (by omega) (by omega)) (fun x => rfl) _ _ _ _ _ _ _ (a7 _ _ _ _ an))
          exact ⟨x, S1, (kr_C kr6 h14' hA).1, c⟩
        · exact absurd z (nz hf)
      obtain ⟨x0, S0, k0, c0⟩ := c0
      obtain ⟨T, j, N, k, runT, hH, pk, g⟩ := fam (mC1 S0) (hs S0 k0)
      have kdT := kd_T pk
      rcases so T j N k hH g with ⟨-, m, Av, P, T6, r6, h7, -, km, -, an⟩ | ⟨hf, -⟩
      · have kd6 := kd_6 kdT km
        have an' := a7 _ _ _ _ an
        have hk : k ≤ 4000 := Nat.le_trans (gP_k _ _ _ _ _ _ _ g) ht
        have h13 : T6.1 73 13 = nI j := (km.1 73 13 (by omega)).trans (MC_13 hH.1.1)
        have mb := m_build (l := l) (Gr := Gr) (d := q + 289) (B := T6) (T := T6) (R := fun T' A' => ∃ x S1, CBr l Gr n w (q + 289) X T' Av i j vw (iW X iw) A' x S1 ∧ ip_RnM l (lg_tbl, vwCl, Gr) M_H_compile (q + 302) [.ref 32] (zP (zc n w) 168 S) (some (.int x), zP (zc n w) 168 S1)) hg hw.1 hw.2 hn.2 (hj _ _ _ hH) h13 h7 (fun _ _ _ => rfl) (fun _ => rfl) an' (fun T' h13 hB h117 an => by
          obtain ⟨A', x, S1, hA, c⟩ := cls_b (l := l) (Gr := Gr) (q := q) (T' := T') hg ho hn.2 hw.1 hw.2 hD hk ht hi (hj _ _ _ hH) h34 z hIc run h13 hB h117 an
          exact ⟨A', ⟨x, S1, hA, c⟩, hA.2.1⟩)
        by_cases ev : ∀ r : Option Value × ip_H, r.2.length = 168 → ip_t r.2 = ip_t (zP (zc n w) 168 T6) → ip_RnM l (lg_tbl, vwCl, Gr) M_Mo_build (q + 301) [.ref 105] (zP (zc n w) 168 T6) r
        · obtain ⟨_, S2, ⟨y, rfl, ey, e2⟩, m0⟩ := m_cmp1 (R := fun y Y => y = x0 ∧ Y = S) hg runT (m_sort hg (MC_f hH.1.1) (hM _ _ r6) (fun y => absurd h7 y) (fun _ => ev_36 (v := some (.int x0)) (S' := S) hg ev ⟨x0, rfl, rfl, rfl⟩))
          rw [ey, e2] at m0
          exact Or.inr ⟨x0, S0, c0, m0⟩
        obtain ⟨B, hB, run0⟩ := zMv_det mb
        have mm : zMi l Gr (zc n w) 168 M_Mo_compile (q + 302) [.ref 105] S0 (fun y S2 => ∃ S1, ip_RnM l (lg_tbl, vwCl, Gr) M_H_compile (q + 302) [.ref 32] (zP (zc n w) 168 S) (some (.int y), zP (zc n w) 168 S1) ∧ KCr S S1 ∧ S1.1 0 4 = 0 ∧ KDr S0 S2 ∧ S2.1 73 5 = 0 ∧ (CMB n y S1 S2 ∨ (CMG n w y S1 S2 ∧ MEd n w S1 S2))) := by
          refine m_cmp1 hg runT (m_sort hg (MC_f hH.1.1) (hM _ _ r6) (fun y => absurd h7 y) (fun _ => b_Mo_compile_36 hg run0 (fun B e0 => ?_)))
          subst e0
          obtain ⟨B1, A, hI, ⟨x, S1, hA, c1⟩, hK, hor⟩ := hB
          have kdB := kd_B kd6 hI hK
          have kc := kr_C kr6 h14' hA
          obtain ⟨kbc, -, ex, hcase⟩ := hA
          have kA := kr_A kr6 kbc
          rw [ex] at c1
          rcases hor with ⟨nv, vb, vq, vt, no, bo, st, h9, pg⟩ | fb
          · have hC : B.1 73 7 = 0 ∧ CEQ A B := by
              rcases pg.1.1.2.2.1.2.2 with ⟨-, h, hC⟩ | ⟨h, -⟩
              · exact ⟨h, hC⟩
              · exact absurd pg.1.1.1.2.2.1 h
            obtain ⟨g', Dm, hG', hM'⟩ := lv_both hC.2
            obtain ⟨o11, o69, b0, o31, ot⟩ := pg.1.2.2.2.2.2.2
            rcases hcase with ⟨y0, an0, lv0, g0, A2, hG, hF, eS⟩ | ⟨y0, -⟩
            · have f1 : ∀ c a, c = 115 ∨ c = 116 → B.1 c a = B1.1 c a := fun c a hc => (hK.1 c a (by omega) (by omega) (by omega)).trans (mBu_n (by omega))
              refine m_fin (S := X) (iw := iw) hg hn.2 hIc.1 hC.1 hM' (by omega) o69 b0 (fun t ht => ?_) (fun a ha => ?_) ((hK.1 73 75 (by omega) (by omega) (by omega)).trans ((mBu_n (by omega)).trans hI.2.2.1)) (fun B4 hMF => ?_)
              · obtain ⟨m, -, m2, m3, -⟩ := ot t ht
                exact ⟨m, m2, m3⟩
              · obtain ⟨o, bt, i1, i2, i3, i4, i5, i6⟩ := hIc.2.2.2.1 a ha
                obtain ⟨j1, j2, -, -⟩ := hI.2.2.2.2 a ha
                have hbt : bt ≤ 32 := by
                  have := hw.2
                  omega
                refine ⟨o, bt, i1, hbt, ?_, ?_, ?_, ?_⟩
                · rw [f1 115 a (Or.inl rfl), j1, i3]
                · rw [f1 116 a (Or.inr rfl), j2, i4]
                · unfold iO
                  rw [i3]
                  exact nI_clamp (by omega)
                · unfold iB
                  rw [i4]
                  exact nI_clamp (by omega)
              · rw [y0] at c1
                have cmg : CMG n w 0 S1 B4 := ⟨rfl, X, A, A2, T6, B1, B, Av, D, k, t, i, j, vw, nv, vb, vq, vt, no, bo, st, iw, an0, lv0, g0, g', Dm, hD, hk, ht, ⟨h34, hi, h13, hj _ _ _ hH⟩, an', hIc, kbc, hG, hF, eS, hI, hK, h9, pg, hC.2, hG', hM', hMF⟩
                refine ⟨S1, c1, kc.1, kc.2, kd_ok kdB hMF, hMF.2.2.1, Or.inr ⟨cmg, ?_⟩⟩
                have nu : ∀ x, x ≤ i → ur X x ≤ 30 := fun x hx => by
                  rw [ur_us]
                  exact aP_us (fun _ _ _ _ z => z.1) _ _ _ _ _ _ _ an' x hx
                have meb := me_two (d := q + 289) hg hw.1 hw.2 hn.2 ⟨h34, hi, h13, hj _ _ _ hH⟩ h7 hD ht nu hIc an' run0 hC.1 ev
                have inf := inf_of (T := mBu B1) hw.1 hw.2 hIc.1 (Ic_w hIc) (fun a ha => (mBu_n (by omega)).trans (hI.2.2.2.2 a ha).2.2.1)
                have fA : ∀ c k, c < 73 → ¬ (c = 0 ∧ (k = 4 ∨ k = 14)) → ¬ (c = 29 ∨ c = 30) → (zmx S1 B4).1 c k = A.1 c k := fun c k q1 q2 q3 => by
                  rw [zmx_l q1, eS, zi_get, if_neg (by omega), hF.1 c k q3, zi_get, if_neg (by omega)]
                refine ⟨X, T6, B, iw, j, hIc, fun c k q1 q2 => ?_, fun c k q1 q2 q3 => ?_, fun c k q1 => ?_, fun k => ?_, h13, hj _ _ _ hH, pg.2, inf.1, meb⟩
                · rw [fA c k (by omega) (by omega) (by omega), kbc.1 c k (by omega) (by omega) (by omega), kBu_n2 (by omega) (by omega), kCc_n (by omega) (by omega)]
                · rw [zmx_r q1]
                  exact hMF.1 c k q2 q3
                · rw [hK.1 c k (by omega) (by omega) (by omega), mBu_n (by omega), hI.1 c k (by omega) (by omega), zi_get, if_neg (by omega), zi_get, if_neg (by omega)]
                · rw [zmx_r2 (by omega), hMF.2.1, hK.2 82 k (by omega)]
                  exact hI.2.1 82 k (by omega)
            · exact absurd pg.1.1.1.2.1 y0
          · rcases hcase with ⟨y0, -⟩ | ⟨y0, eS⟩
            · exact absurd y0 fb.1
            · obtain ⟨q1, q2, q3, q4, q5⟩ := cm_bad (n := n) kA.1 (kA.2.trans h14') fb.1 kdB fb.2.1 fb.2.2
              refine m_bad (by rw [fb.2.1]; exact fb.1) ?_
              rw [fb.2.1]
              rw [eS] at c1
              exact ⟨_, c1, q1, q2, q3, q4, Or.inl q5⟩
        obtain ⟨_, S2, ⟨y, rfl, S1, c1, r1, r2, r3, r4, r5⟩, m0⟩ := mm
        exact Or.inl ⟨x0, S0, y, S1, S2, c0, c1, m0, k0, r1, r2, r3, r4, r5⟩
      · exact absurd z (nz hf)
    · obtain ⟨_, S0, ⟨x, rfl, ex, eS⟩, c0⟩ := go (fun x Y => x = X.1 3 5 ∧ Y = kIc n (zi X 0 4 0)) (c_sort hg hn.2 h35 run6 (fun _ => ⟨rfl, rfl⟩) (fun y => absurd y z))
      rw [ex, eS] at c0
      have kb := kr_bad (n := n) kr6 h14'
      obtain ⟨T, j, N, k, runT, hH, pk, g⟩ := fam (mC1 (kIc n (zi X 0 4 0))) (hs _ kb.1)
      rcases so T j N k hH g with ⟨y, -⟩ | ⟨hf, T', r6, e7, e8, km⟩
      · exact absurd y z
      · have n7 : ¬ T'.1 73 7 = 0 := by rw [e7]; exact z
        obtain ⟨_, S2, ⟨y, rfl, ey, e2⟩, m0⟩ := m_cmp1 (R := fun y Y => y = T'.1 73 7 ∧ Y = zi (zi T' 73 83 0) 73 5 0) hg runT (m_sort hg (MC_f hH.1.1) (hM _ _ r6) (fun _ => ⟨rfl, rfl⟩) (fun y => absurd y n7))
        rw [ey, e2] at m0
        exact cmp_bad2 (x0 := 0) (y := 0) (S2 := S) c0 m0 kr6 h14' z (kd_6 (kd_T pk) km) e7 e8
  · obtain ⟨kr5, h14, -, -⟩ := kr_5 jk
    have nf : ¬ S5.1 3 5 = 0 := by rw [e5]; exact nz hf
    obtain ⟨_, S0, ⟨x, rfl, ex, eS⟩, c0⟩ := go (fun x Y => x = S5.1 3 5 ∧ Y = kIc n (zi S5 0 4 0)) (c_read_bad hg hn.2 nf ⟨rfl, rfl⟩)
    rw [ex, eS] at c0
    have kb := kr_bad (n := n) kr5 h14
    obtain ⟨T', runT, t7, t8, pk⟩ := fam (mC1 (kIc n (zi S5 0 4 0))) (hs _ kb.1)
    obtain ⟨_, S2, ⟨y, rfl, ey, e2⟩, m0⟩ := m_cmp1 (R := fun y Y => y = T'.1 73 7 ∧ Y = zi (zi T' 73 83 0) 73 5 0) hg runT (m_read_bad (by rw [t7]; exact nz hf) ⟨rfl, rfl⟩)
    rw [ey, e2] at m0
    exact cmp_bad2 (x0 := 0) (y := 0) (S2 := S) c0 m0 kr5 h14 nf (kd_T pk) (t7.trans e5.symm) (t8.trans e6.symm)
end CMM
