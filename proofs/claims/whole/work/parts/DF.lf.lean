/-! BUILD on both sides: NUMBERs, true and false, NAMEs -/
def CTX (S T : zS) (N M : Nat) : Prop := S.1 3 4 = nI N ∧ N ≤ 4000 ∧ T.1 73 13 = nI M ∧ M ≤ 12000
theorem lN_inj {a b : Nat} (ha : a < 2 ^ 63) (hb : b < 2 ^ 63) (h : lN a = lN b) : a = b := by
  have h : Int64.ofNat a = Int64.ofNat b := h
  have h1 : ¬ a < b := fun y => by
    have := (i64_lt ha hb).mpr y
    rw [h] at this
    exact Nat.lt_irrefl _ ((i64_lt hb hb).mp this)
  have h2 : ¬ b < a := fun y => by
    have := (i64_lt hb ha).mpr y
    rw [h] at this
    exact Nat.lt_irrefl _ ((i64_lt hb hb).mp this)
  omega
section XLF
variable {l : Launch} {Gr : zG} {n w : Nat} {d : Nat} {Av : Nat → Nat → Prop} {S S' T A A' A1 A2 B B' B0 B1 B2 : zS} {cf rf cd hb hrb i i' hc hr st r ex i1 j j' j1 j2 N M z e D a m : Nat} {os : List Nat} {p : CP (Nat → Int32)} {F F' O : Nat → Int32} {R : zS → Prop}
theorem OPk_S (h : KEc S S') (q : OPk S' A A' a w m O) : OPk S A A' a w m O := ⟨KEc_tr h q.1, q.2⟩
theorem OPd_S (h : MEc T B0) (q : OPd B0 B B' a m O) : OPd T B B' a m O := ⟨MEc_tr h q.1, q.2⟩
theorem XS_7 (h : XS w Av S T cf rf cd hb hrb i hc hr st A B) : B.1 73 7 = 0 := by
  rcases h.2.2.1.2.2 with y | y
  · exact y.2.1
  · exact absurd h.1.2.2.1 y.1
theorem ck_1 (hg : ip_gk (lg_tbl, vwCl, Gr)) (ho : ip_old (lg_tbl, vwCl, Gr)) (hw : w ≤ 32) (cx : CTX S T N M) (h0 : XS w Av S T cf rf cd hb hrb i hc hr st A B0) (hi : i < N) (h4 : S.1 4 i = nI z) (hz : z < 56) (he : oRow2 z = nI e) (heh : e ≤ hc) (hhc : hc + 1 ≤ 9682) (run : ∀ (Q : Option Value → zS → Prop) (x : Int32), zW l Gr (zc n w) 168 M_Builder_build (d + 12) 151 [some (.ref 77), some (.int x), none, none] [] A1 Q → zW l Gr (zc n w) 168 M_Builder_build (d + 12) 100 [some (.ref 77), some (.int x), some (.int (nI i)), some (.int (nI z))] [] (zi A 45 16 (nI (i + 1))) Q) : CGo l Gr n w d 1 A (kEnd A1) :=
  kg_1 hg ho hw (h0.1.1.1.trans cx.1) hi cx.2.1 h0.1.2.1 h0.1.2.2.2.2.1 ((h0.1.1.2 4 i (by omega)).trans h4) hz h0.1.2.2.2.1 he heh hhc run
theorem mk_1 (hg : ip_gk (lg_tbl, vwCl, Gr)) (cx : CTX S T N M) (hB : MCo T B) (h7 : B.1 73 7 = 0) (hj : j < M) (h78 : T.1 78 j = nI z) (hz : z < 20) (q : zMi l Gr (zc n w) 168 M_Mo_operand (d + 11) [.ref 105, .int (nI j)] B (fun v B' => v = nI (j + 1) ∧ R B')) : ∃ B', R B' ∧ MGo l Gr n w d B j B' (j + 1) := by
  obtain ⟨x, B', ⟨ex, hR⟩, q⟩ := zMi_det q
  subst ex
  exact ⟨B', hR, mg_o hg hj cx.2.2.2 (hB.1.trans cx.2.2.1) h7 ((hB.2.1 78 j (by omega)).trans h78) hz q⟩
theorem KEc_16 {v : Int32} : KEc A (zi A 45 16 v) := KEc_zi KEc_rfl (by omega)
theorem MEc_70 {v : Int32} : MEc B (zi B 73 70 v) := ⟨fun k q => by rw [zi_get, if_neg (by omega)], fun c k q => by rw [zi_get, if_neg (by omega)]⟩
theorem MCo_70 {v : Int32} (h : MCo T B) : MCo T (zi B 73 70 v) := ⟨by rw [zi_k (by decide)]; exact h.1, fun c k q => by rw [zi_c (by omega)]; exact h.2.1 c k q, h.2.2⟩
theorem hcw (hhc : hc + 1 ≤ 9682) : hc * w + w ≤ 9682 * w := by rw [← Nat.succ_mul]; exact Nat.mul_le_mul_right _ hhc
theorem lx_num (hg : ip_gk (lg_tbl, vwCl, Gr)) (ho : ip_old (lg_tbl, vwCl, Gr)) (hw1 : 1 ≤ w) (hw : w ≤ 32) (cx : CTX S T N M) (h0 : XS w Av S T cf rf cd hb hrb i hc hr st A B0) (an : aNum w S T r i i' j j') (hi : i < N) (hj : j + 1 < M) (hhc : hc + 1 ≤ 9682) (hhr : hr < 4200) : TRx l Gr n w d Av S T cf rf cd hb hrb r i i' j j' hc hr st A := by
  obtain ⟨v, hv, e0, e1, e2, s4, s5, t1, t2, t82⟩ := an
  subst e0 e1 e2
  refine TRx_leaf (F := fun j => bC (v.testBit j)) (N := N) hg hw1 hw h0 cx.2.2.1 cx.2.2.2 hj t1 ?_ (fun B hB => ?_)
  · obtain ⟨A2, q, run⟩ := zMv_det (w_fac22 (l := l) (n := n) (d := d + 4) (A := zi A 45 16 (nI (i + 1))) (i := i) (v := v) (st := st) (a := hc * w) hg hw (by have := cx.2.1; omega) (by rw [zi_c (by decide), h0.1.1.2 5 i (by omega)]; exact s5) hv (by rw [zi_k (by decide)]; exact h0.1.2.2.2.2.2.1) (by rw [zi_k (by decide)]; exact h0.1.2.2.2.1) (hcw hhc))
    exact ⟨A2, ck_1 (z := 22) (e := 0) hg ho hw cx h0 hi s4 (by omega) rfl (by omega) hhc (kg_F hg (by omega) (by omega) run), OPk_S KEc_16 q⟩
  · have hM := MCo_70 (v := nI (st + 1)) hB.2.1.1
    obtain ⟨B2, q, g⟩ := mk_1 (l := l) (n := n) (w := w) (d := d) (z := 2) (B := zi B 73 70 (nI (st + 1))) hg cx hM (by rw [zi_k (by decide)]; exact XS_7 hB) hj t2 (by omega) (mo_2 (d := d + 5) (v := v % 2 ^ w) hg hw hhr (by have := cx.2.2.2; omega) ((hM.2.1 78 _ (by omega)).trans t2) ((hM.2.2 _).trans t82) (Nat.lt_of_lt_of_le (Nat.mod_lt _ (Nat.two_pow_pos _)) (Nat.pow_le_pow_right (by omega) (by omega))) (by rw [zi_k (by decide)]; exact hB.2.1.2.1))
    refine ⟨_, B2, g, OPd_S MEc_70 q, fun x hx => ⟨?_, ?_⟩⟩
    · have hx : x < w := hx
      show bC (v.testBit x) = bC ((v % 2 ^ w).testBit x)
      rw [Nat.testBit_mod_two_pow, decide_eq_true hx, Bool.true_and]
    · show VC B (bC ((v % 2 ^ w).testBit x))
      cases (v % 2 ^ w).testBit x
      · exact VC_c2
      · exact VC_c1
theorem VC_bC {b : Bool} : VC B (bC b) := by
  cases b
  · exact VC_c2
  · exact VC_c1
theorem lx_tru (hg : ip_gk (lg_tbl, vwCl, Gr)) (ho : ip_old (lg_tbl, vwCl, Gr)) (hw1 : 1 ≤ w) (hw : w ≤ 32) (cx : CTX S T N M) (h0 : XS w Av S T cf rf cd hb hrb i hc hr st A B0) (an : aTru S T r i i' j j') (hi : i < N) (hj : j + 1 < M) (hhc : hc + 1 ≤ 9682) (hhr : hr < 4200) : TRx l Gr n w d Av S T cf rf cd hb hrb r i i' j j' hc hr st A := by
  obtain ⟨e0, e1, e2, s4, t1, hx⟩ := an
  subst e0 e1 e2
  obtain ⟨x, s5, hx, t2⟩ : ∃ x, S.1 5 i = x ∧ (x = -1 ∨ x = -2) ∧ T.1 78 (j + 1) = if x = -1 then 3 else 4 := by
    rcases hx with ⟨a1, a2⟩ | ⟨a1, a2⟩
    · exact ⟨-1, a1, Or.inl rfl, a2⟩
    · exact ⟨-2, a1, Or.inr rfl, a2⟩
  refine TRx_leaf (F := fun _ => x) (N := N) hg hw1 hw h0 cx.2.2.1 cx.2.2.2 hj t1 ?_ (fun B hB => ?_)
  · obtain ⟨A2, q, run⟩ := zMv_det (w_fac23 (l := l) (n := n) (d := d + 4) (A := zi A 45 16 (nI (i + 1))) (i := i) (x := x) (st := st) (a := hc * w) hg hw hw1 (by have := cx.2.1; omega) (by rw [zi_c (by decide), h0.1.1.2 5 i (by omega)]; exact s5) (by rw [zi_k (by decide)]; exact h0.1.2.2.2.2.2.1) (by rw [zi_k (by decide)]; exact h0.1.2.2.2.1) (hcw hhc))
    exact ⟨A2, ck_1 (z := 23) (e := 0) hg ho hw cx h0 hi s4 (by omega) rfl (by omega) hhc (kg_F hg (by omega) (by omega) run), OPk_S KEc_16 q⟩
  · have hM := MCo_70 (v := nI (st + 1)) hB.2.1.1
    obtain ⟨B2, q, g⟩ := mk_1 (l := l) (n := n) (w := w) (d := d) (z := if x = -1 then 3 else 4) (B := zi B 73 70 (nI (st + 1))) hg cx hM (by rw [zi_k (by decide)]; exact XS_7 hB) hj (by rw [t2]; split <;> rfl) (by split <;> omega) (mo_3 (d := d + 5) (x := x) hg hw hhr (by have := cx.2.2.2; omega) ((hM.2.1 78 _ (by omega)).trans t2) hx (by rw [zi_k (by decide)]; exact hB.2.1.2.1))
    refine ⟨_, B2, g, OPd_S MEc_70 q, fun y _ => ⟨rfl, ?_⟩⟩
    rcases hx with e | e
    · rw [e]; exact VC_c1
    · rw [e]; exact VC_c2
theorem nk (h : S.1 11 e = nI a) (ha : a ≤ 4) : (S.1 11 e = 0 ↔ a = 0) ∧ (S.1 11 e = 1 ↔ a = 1) ∧ (S.1 11 e = 2 ↔ a = 2) ∧ (S.1 11 e = 3 ↔ a = 3) := by
  rw [h]
  exact ⟨nI_eq (b := 0) (by omega) (by omega), nI_eq (b := 1) (by omega) (by omega), nI_eq (b := 2) (by omega) (by omega), nI_eq (b := 3) (by omega) (by omega)⟩
theorem lx_nam (hg : ip_gk (lg_tbl, vwCl, Gr)) (ho : ip_old (lg_tbl, vwCl, Gr)) (hw1 : 1 ≤ w) (hw : w ≤ 32) (cx : CTX S T N M) (h0 : XS w Av S T cf rf cd hb hrb i hc hr st A B0) (an : aNam D Av S T r i i' j j') (hD : D ≤ 800) (hcd : 0 < cd → cd ≤ 400) (hp : ∀ e a, Av e a → S.1 11 e = 3 → 0 < cd) (hr4 : hr < 4200) (hk2 : ∀ e a, Av e a → S.1 11 e = 2 → S.1 12 e = 0) (hi : i < N) (hj : j + 1 < M) (hhc : hc + 1 ≤ 9682) : TRx l Gr n w d Av S T cf rf cd hb hrb r i i' j j' hc hr st A := by
  obtain ⟨e, k, a, ⟨q1, q2, q3, -, q5, q6, q7, q8, q9, q10, q11, q12, q13, q14⟩, hk4, e1, e2, s4, s5, t1, t2⟩ := an
  subst e1 e2
  have he : e < 800 := by omega
  have kk := nk q7 q2
  have E0 := h0.2.2.2.2.2.2.2 e a r 0 q6 q3 (by omega) q8 q9
  have cAe : ∀ c, 11 ≤ c → c ≤ 15 → (zi (zi A 45 16 (nI (i + 1))) 45 18 (nI (st + 1))).1 c e = S.1 c e := fun c a1 a2 => by rw [zi_c (by omega), zi_c (by omega)]; exact h0.1.1.2 c e (by omega)
  have b8 : (zi (zi A 45 16 (nI (i + 1))) 45 18 (nI (st + 1))).1 45 8 = nI (hc * w) := by rw [zi_k (by decide), zi_k (by decide)]; exact h0.1.2.2.2.1
  have wrap : ∀ F, zMv l Gr (zc n w) 168 M_Builder_pushNamed (d + 10) [.ref 77, .int (nI e)] (zi (zi A 45 16 (nI (i + 1))) 45 18 (nI (st + 1))) (fun A2 => OPk A (zi (zi A 45 16 (nI (i + 1))) 45 18 (nI (st + 1))) A2 (hc * w) w (bw w r) F) → ∃ A2, CGo l Gr n w d 1 A (kEnd A2) ∧ OPk A (zi (zi A 45 16 (nI (i + 1))) 45 18 (nI (st + 1))) A2 (hc * w) w (bw w r) F := fun F q => by
    obtain ⟨A2, q, run⟩ := zMv_det (w_fac24 (l := l) (n := n) (w := w) (d := d + 4) (A := zi A 45 16 (nI (i + 1))) (i := i) (e := e) (st := st) hg (by have := cx.2.1; omega) (by rw [zi_c (by decide), h0.1.1.2 5 i (by omega)]; exact s5) (by rw [zi_k (by decide)]; exact h0.1.2.2.2.2.2.1) q)
    exact ⟨A2, ck_1 (z := 24) (e := 0) hg ho hw cx h0 hi s4 (by omega) rfl (by omega) hhc (kg_F hg (by omega) (by omega) run), q⟩
  have KA : KEc A (zi (zi A 45 16 (nI (i + 1))) 45 18 (nI (st + 1))) := KEc_zi (KEc_zi KEc_rfl (by omega)) (by omega)
  have mwrap : ∀ B F', XS w Av S T cf rf cd hb hrb i hc hr st A B → zMv l Gr (zc n w) 168 M_Mo_named (d + 10) [.ref 105, .int (nI (j + 1))] (zi B 73 70 (nI (st + 1))) (fun B2 => OPd (zi B 73 70 (nI (st + 1))) (zi B 73 70 (nI (st + 1))) B2 hr (bw w r) F') → ∃ B2, MGo l Gr n w d (zi B 73 70 (nI (st + 1))) (j + 1) B2 (j + 2) ∧ OPd B (zi B 73 70 (nI (st + 1))) B2 hr (bw w r) F' := fun B F' hB q => by
    have hM := MCo_70 (v := nI (st + 1)) hB.2.1.1
    obtain ⟨B2, q, g⟩ := mk_1 (l := l) (n := n) (w := w) (d := d) (z := 5) (B := zi B 73 70 (nI (st + 1))) hg cx hM (by rw [zi_k (by decide)]; exact XS_7 hB) hj t2 (by omega) (mo_5 (d := d + 5) hg (by have := cx.2.2.2; omega) ((hM.2.1 78 _ (by omega)).trans t2) q)
    exact ⟨B2, g, OPd_S MEc_70 q⟩
  have mc : ∀ B, XS w Av S T cf rf cd hb hrb i hc hr st A B → ∀ c, 102 ≤ c → c ≤ 105 → (zi B 73 70 (nI (st + 1))).1 c (j + 1) = T.1 c (j + 1) := fun B hB c a1 a2 => by rw [zi_c (by omega)]; exact hB.2.1.1.2.1 c _ (by omega)
  have m85 : ∀ B, XS w Av S T cf rf cd hb hrb i hc hr st A B → (zi B 73 70 (nI (st + 1))).1 73 85 = nI hr := fun B hB => by rw [zi_k (by decide)]; exact hB.2.1.2.1
  have hj2 : j + 1 < 12000 := by have := cx.2.2.2; omega
  have hk : k = 0 ∨ k = 1 ∨ k = 2 ∨ k = 3 := by omega
  rcases hk with e0 | e0 | e0 | e0
  · subst e0
    have E := E0.1 (kk.1.mpr rfl)
    refine TRx_leaf (F := fun j => 2 * (A.1 20 a + nI j)) (N := N) hg hw1 hw h0 cx.2.2.1 cx.2.2.2 hj t1 (wrap _ (zMv_imp (w_pushN1 (d := d + 8) (F := fun j => 2 * (A.1 20 a + nI j)) (r := r) hg hw hw1 he q3 rfl ((cAe 12 (by omega) (by omega)).trans q8) (by rw [cAe 11 (by omega) (by omega), q7]; decide) (by rw [cAe 11 (by omega) (by omega), q7]; decide) b8 (hcw hhc) (fun x A' hx hF => ?_)) (fun _ q => OPk_S KA q))) (fun B hB => ?_)
    · have f : ∀ c, 11 ≤ c → c ≤ 20 → ∀ y, A'.1 c y = (zi (zi A 45 16 (nI (i + 1))) 45 18 (nI (st + 1))).1 c y := fun c a1 a2 y => hF.1 c y (by omega) (by omega) (by omega)
      refine zMi_imp (w_lit0 (a := a) (b := 0) he (by rw [f 11 (by omega) (by omega), cAe 11 (by omega) (by omega), q7]; decide) (by rw [f 14 (by omega) (by omega), cAe 14 (by omega) (by omega)]; exact q10 (by omega)) (by have := E.1; omega)) (fun v A'' q => ⟨q.1, ?_⟩)
      rw [q.2, f 20 (by omega) (by omega), zi_c (by decide), zi_c (by decide), Nat.add_zero]
    · obtain ⟨B2, g, o⟩ := mwrap B _ hB (wm_named0 (d := d + 9) (a := a) (r := r) hg hw hw1 hr4 hj2 q3 rfl ((mc B hB 105 (by omega) (by omega)).trans q14) (m85 B hB) ((mc B hB 102 (by omega) (by omega)).trans q11) ((mc B hB 103 (by omega) (by omega)).trans q12) (by have := E.1; omega))
      have EB := (hB.2.2.2.2.2.2.2 e a r 0 q6 q3 (by omega) q8 q9).1 (kk.1.mpr rfl)
      refine ⟨_, B2, g, o, fun x hx => ?_⟩
      rw [zi_c (by decide)]
      have := EB.2 0 (by omega)
      rw [Nat.add_zero] at this
      exact ⟨by rw [this.1], this.2 x hx⟩
  · subst e0
    have E := E0.2.1 (kk.2.1.mpr rfl)
    refine TRx_leaf (F := fun j => A.1 58 (a * w + j)) (N := N) hg hw1 hw h0 cx.2.2.1 cx.2.2.2 hj t1 (wrap _ (zMv_imp (w_pushN1 (d := d + 8) (F := fun j => A.1 58 (a * w + j)) (r := r) hg hw hw1 he q3 rfl ((cAe 12 (by omega) (by omega)).trans q8) (by rw [cAe 11 (by omega) (by omega), q7]; decide) (by rw [cAe 11 (by omega) (by omega), q7]; decide) b8 (hcw hhc) (fun x A' hx hF => ?_)) (fun _ q => OPk_S KA q))) (fun B hB => ?_)
    · have f : ∀ c, (11 ≤ c ∧ c ≤ 20) ∨ c = 58 → ∀ y, A'.1 c y = (zi (zi A 45 16 (nI (i + 1))) 45 18 (nI (st + 1))).1 c y := fun c a1 y => hF.1 c y (by omega) (by omega) (by omega)
      refine zMi_imp (w_lit1 (a := a) (b := 0) hw he (by rw [f 11 (by omega), cAe 11 (by omega) (by omega), q7]; rfl) (by rw [f 14 (by omega), cAe 14 (by omega) (by omega)]; exact q10 (by omega)) (by have := E.1; omega) (by have hx : x < bw w r := hx; have := bw_le (w := w) (r := r) hw1; omega)) (fun v A'' q => ⟨q.1, ?_⟩)
      rw [q.2, f 58 (by omega), zi_c (by decide), zi_c (by decide), Nat.add_zero]
    · obtain ⟨B2, g, o⟩ := mwrap B _ hB (wm_named1 (d := d + 9) (a := a) (r := r) hg hw hw1 hr4 hj2 q3 rfl ((mc B hB 105 (by omega) (by omega)).trans q14) (m85 B hB) ((mc B hB 102 (by omega) (by omega)).trans q11) ((mc B hB 103 (by omega) (by omega)).trans q12) (by have := E.1; omega))
      have EB := (hB.2.2.2.2.2.2.2 e a r 0 q6 q3 (by omega) q8 q9).2.1 (kk.2.1.mpr rfl)
      refine ⟨_, B2, g, o, fun x hx => ?_⟩
      rw [zi_c (by decide)]
      have := EB.2 0 x (by omega) hx
      rw [Nat.add_zero] at this
      exact this
  · subst e0
    have hr0 : r = 0 := by
      have := hk2 e a q6 (kk.2.2.1.mpr rfl)
      rw [q8] at this
      exact (nI_eq (b := 0) (by omega) (by omega)).mp this
    subst hr0
    obtain ⟨v, hv, hA, -⟩ := E0.2.2.1 (kk.2.2.1.mpr rfl)
    refine TRx_leaf (F := fun j => bC (v.testBit j)) (N := N) hg hw1 hw h0 cx.2.2.1 cx.2.2.2 hj t1 (wrap _ (zMv_imp (w_pushN2 (d := d + 8) (v := v) hg hw he (by rw [cAe 11 (by omega) (by omega), q7]; rfl) hA b8 (hcw hhc)) (fun _ q => OPk_S KA q))) (fun B hB => ?_)
    obtain ⟨v', hv', hA', hB'⟩ := (hB.2.2.2.2.2.2.2 e a 0 0 q6 q3 (by omega) q8 q9).2.2.1 (kk.2.2.1.mpr rfl)
    obtain ⟨B2, g, o⟩ := mwrap B _ hB (wm_named2 (d := d + 9) (a := a) (r := 0) (v := v') hg hw hw1 hr4 hj2 q3 rfl ((mc B hB 105 (by omega) (by omega)).trans q14) (m85 B hB) ((mc B hB 102 (by omega) (by omega)).trans q11) ((mc B hB 103 (by omega) (by omega)).trans q12) q5 (by omega) hB')
    have ev : v = v' := by
      exact lN_inj (by omega) (by omega) (hA.symm.trans hA')
    subst ev
    exact ⟨_, B2, g, o, fun x hx => ⟨rfl, VC_bC⟩⟩
  · subst e0
    have k3 := kk.2.2.2.mpr rfl
    have E := E0.2.2.2 k3
    have hm : hb * w ≤ hc * w := Nat.mul_le_mul_right _ h0.2.2.2.2.2.1
    have cp := hp e a q6 k3
    refine TRx_leaf (F := fun j => A.1 57 (cf + a * w + j)) (N := N) hg hw1 hw h0 cx.2.2.1 cx.2.2.2 hj t1 (wrap _ (zMv_imp (w_pushN3 (d := d + 8) (b := a) (cf := cf) (a := hc * w) hw he (by rw [cAe 11 (by omega) (by omega), q7]; rfl) (by rw [cAe 14 (by omega) (by omega)]; exact q10 (by omega)) (by rw [zi_k (by decide), zi_k (by decide)]; exact h0.1.2.2.2.2.2.2.1) (by have := E.1; omega) b8 (hcw hhc)) (fun _ q => ⟨KEc_tr KA q.1, q.2.1, q.2.2.1, fun x hx => ?_⟩))) (fun B hB => ?_)
    · rw [q.2.2.2 x (by have := bw_le (w := w) (r := r) hw1; omega)]
      show (zi (zi A 45 16 (nI (i + 1))) 45 18 (nI (st + 1))).1 57 (cf + a * w + x) = A.1 57 (cf + a * w + x)
      rw [zi_c (by decide), zi_c (by decide)]
    · obtain ⟨B2, g, o⟩ := mwrap B _ hB (wm_named3 (d := d + 9) (a := a) (r := r) (cd := cd - 1) (rf := rf) hg hw hw1 hr4 hj2 q3 rfl ((mc B hB 105 (by omega) (by omega)).trans q14) (m85 B hB) ((mc B hB 102 (by omega) (by omega)).trans q11) ((mc B hB 103 (by omega) (by omega)).trans q12) (by rw [zi_k (by decide), show cd - 1 + 1 = cd by omega]; exact hB.2.1.2.2.2.1) (by have := hcd cp; omega) (by rw [zi_c (by decide)]; exact hB.2.1.2.2.2.2 cp) (by have := E.2.1; have := hB.2.2.2.2.2.2.1; omega))
      have EB := (hB.2.2.2.2.2.2.2 e a r 0 q6 q3 (by omega) q8 q9).2.2.2 k3
      refine ⟨_, B2, g, o, fun x hx => ?_⟩
      rw [zi_c (by decide)]
      exact EB.2.2 x hx
end XLF
