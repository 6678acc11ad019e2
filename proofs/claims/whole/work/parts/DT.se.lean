/-! BUILD on both sides: NAME = EXPR -/
section SET
variable {l : Launch} {Cx : Nat → Prop} {Gr : zG} {n w : Nat} {d : Nat} {Av Av' : Nat → Nat → Prop} {S T A A' A1 A2 B B' B0 B1 B2 : zS} {Z Z1 Z2 : Nat → zS → zS → Prop} {c c1 c2 : Int} {cf rf cd hb hrb i i' hc hr st r i1 j j' j1 j2 N M z z2 e vw nv u sd no p lo hi k a b y m q D : Nat} {vb vq vt bo : Nat → Nat} {os : List Nat} {Q : Option Value → zS → Prop} {X : Nat → Int32}
theorem w_keep (hg : ip_gk (lg_tbl, vwCl, Gr)) (hw : w ≤ 32) (hw1 : 1 ≤ w) (he : e < 800) (hr : r ≤ 1) (hm : m = if r = 1 then 1 else w) (h12 : A.1 12 e = nI r) (h14 : A.1 14 e = nI a) (hay : a + y < 256) (hb : b + w ≤ 9682 * w) : zMv l Gr (zc n w) 168 M_Builder_keep (d + 1) [.ref 77, .int (nI e), .int (nI y), .int (nI b)] A (fun A' => A' = zI A 58 (va_cpy (A.1 57) (A.1 58) b ((a + y) * w) m)) := by
  have c0 : ((nI e : Int32)).toNatClampNeg = e := nI_clamp (by omega)
  have hmul : 9682 * w ≤ 9682 * 32 := Nat.mul_le_mul_left _ hw
  have m1 : (a + y) * w + w ≤ 256 * w := by rw [← Nat.succ_mul]; exact Nat.mul_le_mul_right _ hay
  have m2 : 256 * w ≤ 256 * 32 := Nat.mul_le_mul_left _ hw
  have hmw : m ≤ w := by rw [hm]; split <;> omega
  refine e_Builder_keep (b_Builder_keep_0 hg (vp_in_nI he (by omega)) w_bitsOf (fun v A1 k1 => ?_))
  obtain ⟨ev, e1⟩ := k1
  subst e1
  have ev : v = nI m := by
    rw [ev, c0, h12, hm]
    by_cases z : r = 1
    · rw [if_pos z, if_pos (by rw [z]; rfl)]
      rfl
    · rw [if_neg z, if_neg (show ¬ nI r = 1 from fun y => z ((nI_eq (b := 1) (by omega) (by omega)).mp y))]
  rw [ev, c0, h14, nI_add, nI_mul]
  have cb : ((nI b : Int32)).toNatClampNeg = b := nI_clamp (by omega)
  have cm : ((nI m : Int32)).toNatClampNeg = m := nI_clamp (by omega)
  have ca : ((nI ((a + y) * w) : Int32)).toNatClampNeg = (a + y) * w := nI_clamp (by omega)
  refine b_Builder_keep_38 (nI_pos (by omega)) (nI_pos (by omega)) (nI_pos (by omega)) (by rw [cb, cm]; omega) (by rw [ca, cm]; omega) ⟨rfl, ?_⟩
  rw [cb, cm, ca]
theorem w_st10 (hg : ip_gk (lg_tbl, vwCl, Gr)) (hw : w ≤ 32) (hw1 : 1 ≤ w) (hj : j < 4000) (hi : i < 4000) (he : e < 800) (hr : r ≤ 1) (hm : m = if r = 1 then 1 else w) (hj5 : A.1 5 j = nI i) (h5 : A.1 5 i = nI e) (h12 : A.1 12 e = nI r) (h14 : A.1 14 e = nI a) (ha : a < 256) (h8 : A.1 45 8 = nI (b + w)) (hb : b + w ≤ 9682 * w) : zMv l Gr (zc n w) 168 M_Builder_buildStatement (d + 7) [.ref 77, .int (nI j), .int 10] A (fun A' => A' = zI (zi A 45 8 (nI b)) 58 (va_cpy (A.1 57) (A.1 58) b (a * w) m)) := by
  have cj : ((nI j : Int32)).toNatClampNeg = j := nI_clamp (by omega)
  have ci : ((nI i : Int32)).toNatClampNeg = i := nI_clamp (by omega)
  have e8 : A.1 45 8 - nI w = nI b := by rw [h8, nI_subb]
  refine e_Builder_buildStatement (b_Builder_buildStatement_0 (vp_in_nI hj (by omega)) (fun y => absurd y (by decide)) (fun y => absurd y (by decide)) (fun y => absurd y (by decide)) (fun y => absurd y (by decide)) (fun y => absurd y (by decide)) (fun _ => ?_) (fun y => absurd y (by decide)) (fun y => absurd y (by decide)) (fun _ _ _ _ _ y => absurd rfl y))
  rw [cj, hj5]
  refine b_Builder_buildStatement_183 hg (R := fun A' => A' = zI (zi A 45 8 (nI b)) 58 (va_cpy (A.1 57) (A.1 58) b (a * w) m)) (vp_in_nI hi (by omega)) ?_ (fun A' k => b_Builder_buildStatement_214 (b_Builder_buildStatement_267 ⟨rfl, k⟩))
  rw [ci, h5, e8]
  refine zMv_imp (w_keep (d := d + 5) (y := 0) (A := zi A 45 8 (nI b)) hg hw hw1 he hr hm (by rw [zi_c (by decide)]; exact h12) (by rw [zi_c (by decide)]; exact h14) (by omega) hb) (fun X h => ?_)
  rw [h, Nat.add_zero]
  have f57 : (zi A 45 8 (nI b)).1 57 = A.1 57 := funext fun k => zi_c (by decide)
  have f58 : (zi A 45 8 (nI b)).1 58 = A.1 58 := funext fun k => zi_c (by decide)
  rw [f57, f58]
theorem ms_356 (hg : ip_gk (lg_tbl, vwCl, Gr)) (hw : w ≤ 32) (hj : j < 12000) (hr : r ≤ 1) (hm : m = if r = 1 then 1 else w) (hq : q < 4200) (ha : a < 256) (h105 : T.1 105 j = nI r) (h103 : T.1 103 j = nI a) (h85 : T.1 73 85 = nI q) (hX : ∀ i, i < m → T.1 122 (32 * q + i) = X i) : ∀ (c x : Nat) (B : zS), x + c = m → MEc T B → FM (fun c i => c = 132 ∧ 32 * a ≤ i ∧ i < 32 * a + m) T B → (∀ i, i < x → B.1 132 (32 * a + i) = X i) → (∀ B', MEc T B' → FM (fun c i => c = 132 ∧ 32 * a ≤ i ∧ i < 32 * a + m) T B' → (∀ i, i < m → B'.1 132 (32 * a + i) = X i) → zW l Gr (zc n w) 168 M_Mo_statement (d + 6) 406 [none, some (.int (nI j)), none, none, none, none] [] B' Q) → zW l Gr (zc n w) 168 M_Mo_statement (d + 6) 356 [some (.ref 105), some (.int (nI j)), some (.int (nI x)), none, none, none] [] B Q := by
  have cj : ((nI j : Int32)).toNatClampNeg = j := nI_clamp (by omega)
  have hm2 : m ≤ 32 := by rw [hm]; split <;> omega
  have hbl : ∀ (B : zS) (Q' : Option Value → zS → Prop) (x : Nat), FM (fun c i => c = 132 ∧ 32 * a ≤ i ∧ i < 32 * a + m) T B → zW l Gr (zc n w) 168 M_Mo_statement (d + 6) 367 [some (.ref 105), some (.int (nI j)), some (.int (nI x)), none, none, none] [.int (nI m), .int (nI x)] B Q' → zW l Gr (zc n w) 168 M_Mo_statement (d + 6) 356 [some (.ref 105), some (.int (nI j)), some (.int (nI x)), none, none, none] [] B Q' := fun B Q' x hF q' => by
    refine b_Mo_statement_356 hg (vp_in_nI hj (by omega)) wm_width (fun v B1 k1 => ?_)
    rw [k1.2, k1.1, cj, hF.1 105 j (by omega) (by omega) (by omega), h105]
    by_cases z : r = 1
    · rw [if_pos z] at hm
      rw [if_neg (by rw [z]; decide)]
      rw [hm] at q'
      exact q'
    · rw [if_neg z] at hm
      rw [if_pos (by rw [show r = 0 by omega]; rfl)]
      rw [hm] at q'
      exact q'
  intro c
  induction c with
  | zero =>
    intro x B h hK hF h1 hQ
    exact hbl B Q x hF (b_Mo_statement_367 (fun _ => hQ B hK hF (fun i hi => h1 i (by omega))) (fun z => absurd (nI_le (a := m) (b := x) (by omega) (by omega)) z))
  | succ c ih =>
    intro x B h hK hF h1 hQ
    have e1 : 32 * B.1 73 85 + nI x = nI (32 * q + x) := by rw [hF.1 73 85 (by omega) (by omega) (by omega), h85, nI_mul32, nI_add]
    have e2 : 32 * B.1 103 ((nI j : Int32)).toNatClampNeg + nI x = nI (32 * a + x) := by rw [cj, hF.1 103 j (by omega) (by omega) (by omega), h103, nI_mul32, nI_add]
    refine hbl B Q x hF (b_Mo_statement_367 (fun z => absurd z (nI_ge (a := x) (b := m) (by omega) (by omega))) (fun _ => b_Mo_statement_370 (vp_in_nI hj (by omega)) (by rw [e1]; exact vp_in_nI (by omega) (by omega)) (by rw [e2]; exact vp_in_nI (by omega) (by omega)) ?_))
    rw [e1, e2, nI_clamp (by omega), nI_clamp (by omega), hF.1 122 _ (by omega) (by omega) (by omega), hX x (by omega), show nI x + Int32.ofInt 1 = nI (x + 1) from nI_add x 1]
    refine ih (x + 1) _ (by omega) (MEc_zi hK (by omega)) (FM_tr hF (FM_zi (P := fun c i => c = 132 ∧ 32 * a ≤ i ∧ i < 32 * a + m) ⟨rfl, by omega, by omega⟩) (fun _ _ z => z) (fun _ _ z => z)) (fun i hi => ?_) hQ
    rw [zi_get]
    by_cases z : i = x
    · rw [if_pos ⟨rfl, by omega⟩, z]
    · rw [if_neg (by omega)]
      exact h1 i (by omega)
theorem ms_32 (hg : ip_gk (lg_tbl, vwCl, Gr)) (hw : w ≤ 32) (hj : j < 12000) (hr : r ≤ 1) (hm : m = if r = 1 then 1 else w) (hq : q < 4200) (ha : a < 256) (h78 : B.1 78 j = 32) (h105 : B.1 105 j = nI r) (h103 : B.1 103 j = nI a) (h85 : B.1 73 85 = nI (q + 1)) (hX : ∀ i, i < m → B.1 122 (32 * q + i) = X i) : zMi l Gr (zc n w) 168 M_Mo_statement (d + 6) [.ref 105, .int (nI j)] B (fun v B' => v = nI (j + 1) ∧ MEc B B' ∧ FM (fun c i => (c = 73 ∧ i = 85) ∨ (c = 132 ∧ 32 * a ≤ i ∧ i < 32 * a + m)) B B' ∧ B'.1 73 85 = nI q ∧ ∀ i, i < m → B'.1 132 (32 * a + i) = X i) := by
  refine e_Mo_statement (ms_0 (z := 32) hj h78 (by omega) (by omega) (by omega) (by omega) (by omega) (by omega) (by omega) (fun _ => b_Mo_statement_344 ?_) (by omega) (by omega) (by omega) (by omega) (by omega) (by omega) (by omega) (by omega))
  rw [h85, nI_pred]
  refine ms_356 (T := zi B 73 85 (nI q)) (X := X) hg hw hj hr hm hq ha (by rw [zi_c (by decide)]; exact h105) (by rw [zi_c (by decide)]; exact h103) (by rw [zi_get, if_pos ⟨rfl, rfl⟩]) (fun i hi => by rw [zi_c (by decide)]; exact hX i hi) m 0 _ (by omega) (MEc_rfl) FM_rfl (fun i hi => absurd hi (by omega)) (fun B2 e1 e2 e3 => b_Mo_statement_406 (ms_end (R := fun B' => MEc B B' ∧ FM (fun c i => (c = 73 ∧ i = 85) ∨ (c = 132 ∧ 32 * a ≤ i ∧ i < 32 * a + m)) B B' ∧ B'.1 73 85 = nI q ∧ ∀ i, i < m → B'.1 132 (32 * a + i) = X i) ⟨MEc_tr (MEc_85 MEc_rfl) e1, ?_, ?_, e3⟩))
  · exact FM_tr (P'' := fun c i => (c = 73 ∧ i = 85) ∨ (c = 132 ∧ 32 * a ≤ i ∧ i < 32 * a + m)) (FM_zi (P := fun c i => (c = 73 ∧ i = 85) ∨ (c = 132 ∧ 32 * a ≤ i ∧ i < 32 * a + m)) (Or.inl ⟨rfl, rfl⟩)) e2 (fun _ _ z => z) (fun _ _ z => Or.inr z)
  · rw [e2.1 73 85 (by omega) (by omega) (by omega), zi_get, if_pos ⟨rfl, rfl⟩]
/-- nothing on both sides -/
theorem z_nop {hcF : Nat} (hg : ip_gk (lg_tbl, vwCl, Gr)) (ho : ip_old (lg_tbl, vwCl, Gr)) (hw1 : 1 ≤ w) (hw : w ≤ 32) (cx : CTX S T N M) (h0 : XS w Av S T 0 0 0 0 0 i hc hr st A B0 ∧ YE w Av S vw nv vb vq vt u sd no bo A B0) (hz : z = 6 ∨ z = 9 ∨ z = 11 ∨ z = 17) (s4 : S.1 4 i = nI z) (hz2 : z2 = 24 ∨ z2 = 31 ∨ z2 = 33 ∨ z2 = 38) (t1 : T.1 78 j = nI z2) (hi' : i < N) (hj : j < M) (hhc : hc + 1 ≤ 9682) (hF : hcF ≤ hc) : TRz l Gr n w d (fun st A B => XS w Av S T 0 0 0 0 0 i hc hr st A B ∧ YE w Av S vw nv vb vq vt u sd no bo A B) (fun st A B => XS w Av S T 0 0 0 0 0 (i + 1) hc hr st A B ∧ YE w Av S vw nv vb vq vt u sd no bo A B) (SF w Cx Av hcF sd u nv vw lo hi) (-1) j (j + 1) st A := by
  obtain ⟨h0, -⟩ := h0
  have hN := cx.2.1
  have hM := cx.2.2.2
  have g := ck_1 (z := z) (e := 0) hg ho hw cx h0 hi' s4 (by omega) (by rcases hz with q | q | q | q <;> rw [q] <;> rfl) (by omega) hhc (kg_S (l := l) (n := n) (d := d) hg (by omega) (st_nk (d := d + 4) (A := zi A 45 16 (nI (i + 1))) (by omega) (by omega) hg))
  rw [kEnd_g (st := st) (by rw [zi_c (by decide)]; exact h0.1.2.2.1) (by rw [zi_k (by decide)]; exact h0.1.2.2.2.2.2.1) h0.2.2.2.2.1] at g
  have fA : FK (PXc w hc 0) A (zi A 45 16 (nI (i + 1))) := FK_zi (P := PXc w hc 0) (Or.inl ⟨rfl, Or.inr (Or.inl rfl)⟩)
  refine ⟨1, _, g, KBc_F fA, Or.inl ⟨st, Nat.le_refl _, by omega, fun B hB => ?_⟩⟩
  have b78 : B.1 78 j = nI z2 := (hB.1.2.1.1.2.1 78 j (by omega)).trans t1
  exact ⟨B, mg_s (z := z2) hg hj hM (hB.1.2.1.1.1.trans cx.2.2.1) (XS_7 hB.1) b78 (by omega) (by omega) (ms_nn (d := d + 5) (by omega) b78 (by omega)), ⟨XS_nop hw1 hw hB.1, YE_k hB.2 fA (FM_rfl (P := PXm hr 0)) (fun _ h => h)⟩, SF_x fA (FM_rfl (P := PXm hr 0)) (fun _ h => h) hF⟩
/-- EXPRs in a statement -/
theorem u_z {hcF ex : Nat} (hst : st ≤ 100000) (hT : TRu l Gr n w d Av S T 0 0 0 0 0 os ex i i' j j' hc hr st A) (hF : hcF ≤ hc) : TRz l Gr n w d (fun st A B => XS w Av S T 0 0 0 0 0 i hc hr st A B ∧ YE w Av S vw nv vb vq vt u sd no bo A B) (fun st A B => XS w Av S T 0 0 0 0 0 i' (hc + os.length) (hr + os.length) st A B ∧ OAs w os hc hr A B ∧ YE w Av S vw nv vb vq vt u sd no bo A B) (SF w Cx Av hcF sd u nv vw lo hi) 0 j j' st A := by
  obtain ⟨k1, A1, g1, kb1, ⟨st1, s1, b1, m1⟩ | ⟨b1, m1⟩⟩ := hT
  · have b1 : k1 + 69 * os.length + ex ≤ 120 * (st1 - st) := b1
    refine ⟨k1, A1, g1, kb1, Or.inl ⟨st1, s1, by omega, fun B hB => ?_⟩⟩
    obtain ⟨B1, n1, f1, e1, v1, x1, o1⟩ := m1 B hB.1
    exact ⟨B1, n1, ⟨x1, o1, YE_k hB.2 f1 e1 v1⟩, SF_x f1 e1 v1 hF⟩
  · exact ⟨k1, A1, g1, kb1, Or.inr ⟨by omega, fun B hB => m1 B hB.1⟩⟩
theorem TRz_mo {Fr Fr' : zS → zS → zS → zS → Prop} (h : TRz l Gr n w d Z Z1 Fr c j j1 st A) (hF : ∀ A A' B B', Fr A A' B B' → Fr' A A' B B') : TRz l Gr n w d Z Z1 Fr' c j j1 st A := by
  obtain ⟨k1, A1, g1, kb1, ⟨st1, s1, b1, m1⟩ | b1⟩ := h
  · refine ⟨k1, A1, g1, kb1, Or.inl ⟨st1, s1, b1, fun B hB => ?_⟩⟩
    obtain ⟨B1, n1, z1, f1⟩ := m1 B hB
    exact ⟨B1, n1, z1, hF _ _ _ _ f1⟩
  · exact ⟨k1, A1, g1, kb1, Or.inr b1⟩
/-- EN behind one word's assignment -/
theorem EN_set (h : EN w Av S 0 0 0 0 A B) (hw : w ≤ 32) (hm : m ≤ w) (fA : ∀ c k, c = 20 ∨ (c = 58 ∧ ¬ (a * w ≤ k ∧ k < a * w + m)) → A'.1 c k = A.1 c k) (fA2 : ∀ k, A'.2 48 k = A.2 48 k) (gB : ∀ c k, c = 117 ∨ (c = 132 ∧ ¬ (32 * a ≤ k ∧ k < 32 * a + m)) → B'.1 c k = B.1 c k) (gB2 : ∀ k, B'.2 141 k = B.2 141 k) (v : VM B B') (hv : ∀ x, x < m → A'.1 58 (a * w + x) = B'.1 132 (32 * a + x) ∧ VC B' (B'.1 132 (32 * a + x))) (hw1 : 1 ≤ w) : EN w Av S 0 0 0 0 A' B' := by
  intro e a' r z h1 h2 h3 h4 h5
  obtain ⟨k0, k1, k2, k3⟩ := h e a' r z h1 h2 h3 h4 h5
  refine ⟨fun y => ⟨(k0 y).1, fun t ht => ?_⟩, fun y => ⟨(k1 y).1, fun t x ht hx => ?_⟩, fun y => ?_, fun y => absurd (k3 y).2.1 (by omega)⟩
  · rw [fA 20 _ (Or.inl rfl), gB 117 _ (Or.inl rfl)]
    exact ⟨((k0 y).2 t ht).1, fun x hx => v _ (((k0 y).2 t ht).2 x hx)⟩
  · have hb := bw_le (w := w) (r := r) hw1
    by_cases q : a' + t = a ∧ x < m
    · rw [q.1]
      exact hv x q.2
    · have n1 : ¬ (a * w ≤ (a' + t) * w + x ∧ (a' + t) * w + x < a * w + m) := fun y => by
        rcases Nat.lt_trichotomy (a' + t) a with q1 | q1 | q1
        · have : (a' + t) * w + w ≤ a * w := by rw [← Nat.succ_mul]; exact Nat.mul_le_mul_right _ q1
          omega
        · rw [q1] at y
          omega
        · have : a * w + w ≤ (a' + t) * w := by rw [← Nat.succ_mul]; exact Nat.mul_le_mul_right _ q1
          omega
      rw [fA 58 _ (Or.inr ⟨rfl, n1⟩), gB 132 _ (Or.inr ⟨rfl, by omega⟩)]
      exact ⟨((k1 y).2 t x ht hx).1, v _ ((k1 y).2 t x ht hx).2⟩
  · rw [fA2, gB2]
    exact k2 y
theorem set_fin (hg : ip_gk (lg_tbl, vwCl, Gr)) (ho : ip_old (lg_tbl, vwCl, Gr)) (hw1 : 1 ≤ w) (hw : w ≤ 32) (cx : CTX S T N M) (h0 : XS w Av S T 0 0 0 0 0 i1 (hc + 1) 1 st A B0 ∧ OAs w [r] hc 0 A B0 ∧ YE w Av S vw nv vb vq vt u (sd + 1) no bo A B0) (he : e < 800) (hr : r ≤ 1) (ha : a < 256) (hsd : sd < 80) (hlo : lo ≤ a) (hhi : a + 1 ≤ hi) (hCx : ∀ x, x < bw w r → ¬ Cx (a * w + x)) (s12 : S.1 12 e = nI r) (s14 : S.1 14 e = nI a) (s5 : S.1 5 i = nI e) (u4 : S.1 4 i1 = 10) (u5 : S.1 5 i1 = nI i) (t1 : T.1 78 j1 = 32) (t103 : T.1 103 j1 = nI a) (t105 : T.1 105 j1 = nI r) (t2 : T.1 78 (j1 + 1) = 21) (hii : i < i1) (hi' : i1 < N) (hj : j1 + 1 < M) (hhc : hc + 2 ≤ 9682) : TRz l Gr n w d (fun st A B => XS w Av S T 0 0 0 0 0 i1 (hc + 1) 1 st A B ∧ OAs w [r] hc 0 A B ∧ YE w Av S vw nv vb vq vt u (sd + 1) no bo A B) (fun st A B => YB w Av S T (i1 + 1) hc st A B ∧ YE w Av S vw nv vb vq vt u sd no bo A B) (SF w Cx Av hc sd u nv vw lo hi) (-1) j1 (j1 + 2) st A := by
  obtain ⟨h0, o0, y0⟩ := h0
  have hN := cx.2.1
  have hM := cx.2.2.2
  have hml := bw_le (w := w) (r := r) hw1
  have hst := h0.2.2.2.2.1
  have amw : a * w + w ≤ 256 * w := by rw [← Nat.succ_mul]; exact Nat.mul_le_mul_right _ ha
  have cA : ∀ c u, (4 ≤ c ∧ c ≤ 7) ∨ (11 ≤ c ∧ c ≤ 15) → (zi A 45 16 (nI (i1 + 1))).1 c u = S.1 c u := fun c u h => by rw [zi_c (by omega)]; exact h0.1.1.2 c u (by omega)
  obtain ⟨A2, e2, run⟩ := zMv_det (w_st10 (l := l) (n := n) (d := d + 4) (A := zi A 45 16 (nI (i1 + 1))) (j := i1) (i := i) (e := e) (r := r) (m := bw w r) (a := a) (b := hc * w) hg hw hw1 (by omega) (by omega) he hr rfl ((cA 5 i1 (by omega)).trans u5) ((cA 5 i (by omega)).trans s5) ((cA 12 e (by omega)).trans s12) ((cA 14 e (by omega)).trans s14) ha (by rw [zi_k (by decide), ← hc2]; exact h0.1.2.2.2.1) (hcw (by omega)))
  have g := ck_1 (z := 10) (e := 1) hg ho hw cx h0 hi' u4 (by omega) rfl (by omega) (by omega) (kg_S (l := l) (n := n) (d := d) hg (by omega) run)
  have f2 : ∀ c k, ¬ (c = 45 ∧ (k = 8 ∨ k = 16)) → ¬ (c = 58 ∧ a * w ≤ k ∧ k < a * w + bw w r) → A2.1 c k = A.1 c k := fun c k q1 q2 => by
    rw [e2, zI_get]
    by_cases z : c = 58
    · subst z
      rw [if_pos rfl, pk_cpy_out (by omega), zi_c (by decide)]
    · rw [if_neg z, zi_get, if_neg (by omega), zi_get, if_neg (by omega)]
  have v58 : ∀ x, x < bw w r → A2.1 58 (a * w + x) = A.1 57 (hc * w + x) := fun x hx => by
    rw [e2, zI_get, if_pos rfl, pk_cpy_in (by omega) (by omega), show a * w + x - a * w = x by omega, zi_c (by decide)]
  have c8 : A2.1 45 8 = nI (hc * w) := by rw [e2, zI_c (by decide), zi_get, if_pos ⟨rfl, rfl⟩]
  have c16 : A2.1 45 16 = nI (i1 + 1) := by rw [e2, zI_c (by decide), zi_k (by decide), zi_get, if_pos ⟨rfl, rfl⟩]
  have l2 : ∀ c k, A2.2 c k = A.2 c k := fun c k => by rw [e2]; rfl
  have K : KEc A A2 := ⟨fun k q1 q2 => f2 24 k (by omega) (by omega), fun c k q1 q2 => f2 c k (by omega) (by omega)⟩
  have c7 : A2.1 24 7 = 0 := (f2 24 7 (by omega) (by omega)).trans h0.1.2.2.1
  have c18 : A2.1 45 18 = nI st := (f2 45 18 (by omega) (by omega)).trans h0.1.2.2.2.2.2.1
  rw [kEnd_g (st := st) c7 c18 hst] at g
  have kb : KBc A A2 := ⟨fun c k q1 q2 q3 => f2 c k (by omega) (by omega), fun c k _ => l2 c k⟩
  have ml1 : lo * w ≤ a * w := Nat.mul_le_mul_right _ hlo
  have mh1 : a * w + w ≤ hi * w := by rw [← Nat.succ_mul]; exact Nat.mul_le_mul_right _ hhi
  refine ⟨1, A2, g, kb, Or.inl ⟨st, Nat.le_refl _, by omega, fun B hB => ?_⟩⟩
  obtain ⟨hB, oB, y1, y2, ⟨y3, y4, y5, y6, y7⟩, y8, y9, o1, o2, o3, o4, o5⟩ := hB
  have oa : OA w r hc 0 A B := oB 0 (Nat.succ_pos _)
  have mT : ∀ c k, (78 ≤ c ∧ c ≤ 81) ∨ c = 89 ∨ (102 ≤ c ∧ c ≤ 107) ∨ c = 117 → B.1 c k = T.1 c k := hB.2.1.1.2.1
  obtain ⟨x1, B1, ⟨ex, M1, F1, b85, v132⟩, r1⟩ := zMi_det (ms_32 (l := l) (n := n) (w := w) (d := d + 5) (B := B) (j := j1) (r := r) (m := bw w r) (q := 0) (a := a) (X := fun x => B.1 122 (32 * 0 + x)) hg hw (by omega) hr rfl (by omega) ha ((mT 78 j1 (by omega)).trans t1) ((mT 105 j1 (by omega)).trans t105) ((mT 103 j1 (by omega)).trans t103) hB.2.1.2.1 (fun _ _ => rfl))
  subst ex
  have n1 : MGo l Gr n w d B j1 B1 (j1 + 1) := mg_s (z := 32) hg (by omega) hM (hB.2.1.1.1.trans cx.2.2.1) (XS_7 hB) ((mT 78 j1 (by omega)).trans t1) (by omega) (by omega) r1
  have F1' : ∀ c k, ¬ (c = 73 ∧ (k = 8 ∨ k = 85)) → ¬ (c = 132 ∧ 32 * a ≤ k ∧ k < 32 * a + bw w r) → B1.1 c k = B.1 c k := fun c k q1 q2 => by
    by_cases z1 : c = 73 ∧ (k = 7 ∨ k = 66 ∨ k = 67 ∨ k = 68)
    · rw [z1.1]
      exact M1.1 k (by omega)
    · by_cases z2 : 111 ≤ c ∧ c ≤ 114
      · exact M1.2 c k (Or.inl z2)
      · exact F1.1 c k (by omega) z2 (by omega)
  have b94 : B1.1 73 94 = nI (sd + 1) := (F1' 73 94 (by omega) (by omega)).trans y1
  have n2 : MGo l Gr n w d B1 (j1 + 1) (zi B1 73 94 (nI sd)) (j1 + 2) := mg_s (z := 21) hg hj hM (((F1' 73 13 (by omega) (by omega)).trans hB.2.1.1.1).trans cx.2.2.1) ((F1' 73 7 (by omega) (by omega)).trans (XS_7 hB)) (((F1' 78 _ (by omega) (by omega)).trans (mT 78 _ (by omega))).trans t2) (by omega) (by omega) (ms_21 (d := d + 5) (by omega) (((F1' 78 _ (by omega) (by omega)).trans (mT 78 _ (by omega))).trans t2) b94)
  have g2 : ∀ c k, ¬ (c = 73 ∧ (k = 8 ∨ k = 85 ∨ k = 94)) → ¬ (c = 132 ∧ 32 * a ≤ k ∧ k < 32 * a + bw w r) → (zi B1 73 94 (nI sd)).1 c k = B.1 c k := fun c k q1 q2 => by rw [zi_get, if_neg (by omega)]; exact F1' c k (by omega) q2
  have El : MEl B (zi B1 73 94 (nI sd)) := ⟨fun k q => g2 73 k (by omega) (by omega), fun c k q => g2 c k (by omega) (by omega)⟩
  have vm : VM B (zi B1 73 94 (nI sd)) := fun x hx => VC_El El hx
  have km : KBm B (zi B1 73 94 (nI sd)) := ⟨fun c k q1 q2 q3 => g2 c k (by omega) (by omega), fun c k _ => F1.2 c k⟩
  have hv : ∀ x, x < bw w r → A2.1 58 (a * w + x) = (zi B1 73 94 (nI sd)).1 132 (32 * a + x) ∧ VC (zi B1 73 94 (nI sd)) ((zi B1 73 94 (nI sd)).1 132 (32 * a + x)) := fun x hx => by
    rw [v58 x hx, zi_c (by decide), v132 x hx]
    exact ⟨(oa x hx).1, vm _ (oa x hx).2⟩
  refine ⟨_, MGo_tr n1 n2, ⟨⟨⟨CCo_K hB.1.1 kb, (f2 3 5 (by omega) (by omega)).trans hB.1.2.1, c7, c8, c16, c18, (f2 45 13 (by omega) (by omega)).trans hB.1.2.2.2.2.2.2.1, (f2 45 12 (by omega) (by omega)).trans hB.1.2.2.2.2.2.2.2⟩, ⟨MCo_K hB.2.1.1 km, by rw [zi_k (by decide)]; exact b85, (g2 73 70 (by omega) (by omega)).trans hB.2.1.2.2.1, (g2 73 110 (by omega) (by omega)).trans hB.2.1.2.2.2.1⟩, RL_El hB.2.2.1 hB.1.2.2.1 K El ⟨sd, by omega, zi_v⟩, hst, EN_set hB.2.2.2.2.2.2.2 hw hml (fun c k q => f2 c k (by omega) (by omega)) (fun k => l2 48 k) (fun c k q => g2 c k (by omega) (by omega)) (fun k => F1.2 141 k) vm hv hw1⟩, zi_v, (g2 73 101 (by omega) (by omega)).trans y2, ⟨(g2 73 97 (by omega) (by omega)).trans y3, y4, y5, fun t ht => by rw [g2 133 t (by omega) (by omega), g2 134 t (by omega) (by omega), g2 135 t (by omega) (by omega)]; exact y6 t ht, y7⟩, y8, fun k hk => ?_, (f2 24 11 (by omega) (by omega)).trans o1, (g2 73 69 (by omega) (by omega)).trans o2, o3, fun t ht => by rw [f2 31 t (by omega) (by omega)]; exact o4 t ht, fun t ht => ?_⟩, ?_⟩
  · by_cases q : a * w ≤ k ∧ k < a * w + bw w r
    · have := hv (k - a * w) (by omega)
      rw [show a * w + (k - a * w) = k by omega] at this
      rw [this.1]
      exact this.2.2
    · rw [f2 58 k (by omega) (by omega)]
      exact y9 k hk
  · obtain ⟨m, q1, q2, q3, q4⟩ := o5 t ht
    refine ⟨m, q1, (g2 120 t (by omega) (by omega)).trans q2, q3, fun x hx => ?_⟩
    rw [f2 32 _ (by omega) (by omega), g2 121 _ (by omega) (by omega)]
    exact ⟨(q4 x hx).1, vm _ (q4 x hx).2⟩
  · exact ⟨⟨fun k _ => f2 57 k (by omega) (by omega), fun k _ q => f2 58 k (by omega) (fun y => q.elim (fun q => by omega) (fun q => q.elim (fun q => by omega) (fun q => hCx (k - a * w) (by omega) (by rw [show a * w + (k - a * w) = k by omega]; exact q)))), fun e a _ => ⟨l2 48 e, l2 49 e⟩⟩, ⟨fun t q => g2 131 t (by omega) (by omega), fun t c _ q2 q3 => g2 c t (by omega) (by omega), fun k c _ q2 => g2 c k (by omega) (by omega), fun t c _ q2 q3 => g2 c t (by omega) (by omega), fun e a _ => ⟨F1.2 141 a, F1.2 142 a, g2 143 a (by omega) (by omega)⟩⟩, vm, km⟩
theorem y_set (hg : ip_gk (lg_tbl, vwCl, Gr)) (ho : ip_old (lg_tbl, vwCl, Gr)) (hw1 : 1 ≤ w) (hw : w ≤ 32) (cx : CTX S T N M) (nu : ∀ x, x ≤ N → ur S x ≤ 30) (hD : D ≤ 800) (h0 : YB w Av S T i hc st A B0 ∧ YE w Av S vw nv vb vq vt u sd no bo A B0) (an : aSet w D S T lo hi Av p i i' j j') (expr : ∀ r i1 j1, aX w D Av r S T (i + 2) i1 (j + 2) j1 → i1 < i' → j1 < j' → ∀ A1 B1 st1, XS w Av S T 0 0 0 0 0 (i + 2) hc 0 st1 A1 B1 → TRx l Gr n w d Av S T 0 0 0 0 0 r (i + 2) i1 (j + 2) j1 hc 0 st1 A1) (hCx : CXo w Av S Cx) (hvw : hi ≤ 256) (hsd : sd < 80) (hi' : i' ≤ N) (hj : j' ≤ M) (hhc : hc + 2 ≤ 9682) : TRz l Gr n w d (fun st A B => YB w Av S T i hc st A B ∧ YE w Av S vw nv vb vq vt u sd no bo A B) (fun st A B => YB w Av S T i' hc st A B ∧ YE w Av S vw nv vb vq vt u sd no bo A B) (SF w Cx Av hc sd u nv vw lo hi) 0 j j' st A := by
  obtain ⟨e, a, r, i1, j1, ⟨q1, q2, q3, q4, q5, q6, q7, q8, q9, q10, q11, q12, q13, q14⟩, hlo, hhi, hx, e1, e2, f1, f2, f3, f4, f5, f6, t1, t2, t3, t4, t5⟩ := an
  have bx := aX_bnd hx
  subst e1 e2
  have s1 := y_beg (l := l) (Gr := Gr) (n := n) (d := d) (Cx := Cx) (lo := lo) (hi := hi) hg ho hw1 hw cx h0 f1 f2 t1 t2 hsd (by omega) (by omega) (by omega)
  have smo : ∀ (A A' B B' : zS), SF w Cx Av hc (sd + 1) u nv vw lo hi A A' B B' → SF w Cx Av hc sd u nv vw lo hi A A' B B' := fun A A' B B' h => SF_mo h (fun _ _ h => h) (Nat.le_refl _) (by omega) (Nat.le_refl _) (Nat.le_refl _) (Nat.le_refl _) (Nat.le_refl _) (Nat.le_refl _)
  have s2 := TRz_seq (c2 := -1) (Z2 := fun st A B => XS w Av S T 0 0 0 0 0 (i + 2) hc 0 st A B ∧ YE w Av S vw nv vb vq vt u (sd + 1) no bo A B) (j2 := j + 2) h0 s1 (by omega) (fun st A B h => h.1.2.2.2.2.1) (fun _ _ _ _ _ _ => SF_tr) (fun _ _ _ _ h => h.2.2.2) (fun A1 B1 st1 _ z1 => TRz_mo (z_nop (z := 9) (z2 := 31) hg ho hw1 hw cx z1 (by omega) f3 (by omega) t3 (by omega) (by omega) (by omega) (Nat.le_refl _)) smo)
  have s3 := TRz_seq (c2 := 0) (Z2 := fun st A B => XS w Av S T 0 0 0 0 0 i1 (hc + 1) 1 st A B ∧ OAs w [r] hc 0 A B ∧ YE w Av S vw nv vb vq vt u (sd + 1) no bo A B) (j2 := j1) h0 s2 (by omega) (fun st A B h => h.1.2.2.2.2.1) (fun _ _ _ _ _ _ => SF_tr) (fun _ _ _ _ h => h.2.2.2) (fun A1 B1 st1 _ z1 => TRz_mo (u_z (os := [r]) (hcF := hc) (Cx := Cx) (lo := lo) (hi := hi) z1.1.2.2.2.2.1 (TRu_app (r := r) hw1 hw z1.1 (nu i1 (by omega)) (TRu_nil (l := l) (Gr := Gr) (n := n) (d := d) (i := i + 2) (j := j + 2)) (fun A2 B2 st2 _ x2 => expr r i1 j1 hx (by omega) (by omega) A2 B2 st2 x2)) (Nat.le_refl _)) smo)
  have s4 := TRz_seq (c2 := -1) (Z2 := fun st A B => YB w Av S T (i1 + 1) hc st A B ∧ YE w Av S vw nv vb vq vt u sd no bo A B) (j2 := j1 + 2) h0 s3 (by omega) (fun st A B h => h.1.2.2.2.2.1) (fun _ _ _ _ _ _ => SF_tr) (fun _ _ _ _ h => h.2.2.2) (fun A1 B1 st1 _ z1 => set_fin (i := i + 1) (e := e) (a := a) (r := r) hg ho hw1 hw cx z1 (by omega) q3 (by omega) hsd hlo hhi (fun x hx => hCx e a r 0 q6 (by rw [q7]; rfl) q3 q8 q4 q9 0 x (by omega) hx) q8 (q10 (by omega)) f4 f5 f6 t4 q12 q14 t5 (by omega) (by omega) (by omega) (by omega))
  exact TRz_le s4 (by omega)
end SET
