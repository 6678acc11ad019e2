/-! mean() beside build: numbers, true, false, NAMEs, signs, operators, choices, int( ) -/
/-- one EXPR in both runs -/
def OX (l l2 : Launch) (Gr Gr2 : zG) (n w d d2 : Nat) (inb : Nat → Nat) (wb : Nat) (act : Prop) (Av : Nat → Nat → Prop) (S T : zS) (rf cd hrb r j j' hr st : Nat) (B C : zS) : Prop := OU l l2 Gr Gr2 n w d d2 inb wb act Av S T rf cd hrb [r] (fun _ => PB T j j') j j' hr st B C
section NOD
variable {l l2 : Launch} {Gr Gr2 : zG} {n w d d2 : Nat} {inb : Nat → Nat} {wb : Nat} {act c : Prop} {Av : Nat → Nat → Prop} {S T B B' C C' X : zS} {rf cd hrb hr st i i' j j' j1 j2 j3 r r1 k z N M v o D e a m q h : Nat} {os : List Nat} {cs : Nat → Prop} {u : Int64}
theorem FC_pu : FC h cd X (mPu X h u) := ⟨fun c k q1 q2 => by unfold mPu; rw [zi_get, if_neg (by omega)]; rfl, fun c k q => by
  unfold mPu
  show (zj X 147 h u).2 c k = _
  rw [zj_get, if_neg (by omega)]⟩
theorem FC_po : FC h cd X (mPo X h u) := ⟨fun c k q1 q2 => by
  unfold mPo
  show (zi X 73 115 (nI (h + 1))).1 c k = _
  rw [zi_get, if_neg (by omega)], fun c k q => by
  unfold mPo
  rw [zj_get, if_neg (by omega)]
  rfl⟩
theorem cm_any (hg2 : ip_gk (lg_tbl, vwCl, Gr2)) (hM : T.1 73 13 = nI M) (hM2 : M ≤ 12000) (hj : j < M) (ht : T.1 78 j = nI z) (hz : z < 20) (hC : act → MN T rf cd k C) (q : act → zMi l2 Gr2 (zc n w) 168 M_Mo_meanOperand (d2 + 2) [.ref 105, .int (nI j)] C (fun y X' => y = nI (j + 1) ∧ X' = X)) (hX : act → FC h cd C X ∧ X.1 73 115 = nI (h + 1) ∧ X.1 73 110 = C.1 73 110 ∧ X.2 147 h = lN v) : ∃ C2, act → NGo l2 Gr2 n w d2 C j C2 (j + 1) ∧ FC h cd C C2 ∧ C2.1 73 115 = nI (h + 1) ∧ C2.1 73 110 = C.1 73 110 ∧ C2.2 147 h = lN v := ⟨X, fun t => ⟨ng_o hg2 hj hM2 ((hC t).1.1.trans hM) (((hC t).1.2.1 78 j (by omega)).trans ht) hz (q t), hX t⟩⟩
theorem cm_pu (hg2 : ip_gk (lg_tbl, vwCl, Gr2)) (hM : T.1 73 13 = nI M) (hM2 : M ≤ 12000) (hj : j < M) (ht : T.1 78 j = nI z) (hz : z < 20) (hC : act → MN T rf cd k C) (q : act → zMi l2 Gr2 (zc n w) 168 M_Mo_meanOperand (d2 + 2) [.ref 105, .int (nI j)] C (fun y X' => y = nI (j + 1) ∧ X' = mPu C h u)) (hu : act → u = lN v) : ∃ C2, act → NGo l2 Gr2 n w d2 C j C2 (j + 1) ∧ FC h cd C C2 ∧ C2.1 73 115 = nI (h + 1) ∧ C2.1 73 110 = C.1 73 110 ∧ C2.2 147 h = lN v := cm_any hg2 hM hM2 hj ht hz hC q (fun t => ⟨FC_pu, by unfold mPu; exact zi_v, by unfold mPu; rw [zi_k (by decide)]; rfl, by
  unfold mPu
  show (zj C 147 h u).2 147 h = _
  rw [zj_get, if_pos ⟨rfl, rfl⟩, hu t]⟩)
theorem cm_po (hg2 : ip_gk (lg_tbl, vwCl, Gr2)) (hM : T.1 73 13 = nI M) (hM2 : M ≤ 12000) (hj : j < M) (ht : T.1 78 j = nI z) (hz : z < 20) (hC : act → MN T rf cd k C) (q : act → zMi l2 Gr2 (zc n w) 168 M_Mo_meanOperand (d2 + 2) [.ref 105, .int (nI j)] C (fun y X' => y = nI (j + 1) ∧ X' = mPo C h u)) (hu : act → u = lN v) : ∃ C2, act → NGo l2 Gr2 n w d2 C j C2 (j + 1) ∧ FC h cd C C2 ∧ C2.1 73 115 = nI (h + 1) ∧ C2.1 73 110 = C.1 73 110 ∧ C2.2 147 h = lN v := cm_any hg2 hM hM2 hj ht hz hC q (fun t => ⟨FC_po, by
  unfold mPo
  show (zi C 73 115 (nI (h + 1))).1 73 115 = _
  exact zi_v, by
  unfold mPo
  show (zi C 73 115 (nI (h + 1))).1 73 110 = _
  rw [zi_k (by decide)], by
  unfold mPo
  rw [zj_get, if_pos ⟨rfl, rfl⟩, hu t]⟩)
theorem opf_V2 (hi : ∀ t, inb t = 0 ∨ inb t = 1) (h : ∀ x, x < m → V2 inb wb c B (B.1 122 (32 * hr + x)) (v.testBit x)) (x : Nat) (hx : x < m) : V2 inb wb c B (opf m (B.1 122) (32 * hr) x) (v.testBit x) := by
  rw [opf_at hx]
  exact h x hx
theorem opf_vc (hd : GdT wb B) (h7 : B.1 73 7 = 0) (h : ∀ x, x < m → V2 inb wb c B (B.1 122 (32 * hr + x)) (v.testBit x)) (j : Nat) : VC B (opf m (B.1 122) (32 * hr) j) := by
  unfold opf
  split
  · rename_i hj
    exact ((h j hj).1 h7 hd.2.1 hd.2.2.1).1
  · exact VC_c2
theorem bw_0 : bw w 0 = w := rfl
theorem p2_bw (hw1 : 1 ≤ w) : 2 ^ bw w r ≤ 2 ^ w := Nat.pow_le_pow_right (by omega) (bw_le hw1)
theorem p2_32 (hw1 : 1 ≤ w) (hw : w ≤ 32) : 2 ^ bw w r ≤ 2 ^ 32 := Nat.le_trans (p2_bw hw1) (Nat.pow_le_pow_right (by omega) hw)
theorem ox_num (hg : ip_gk (lg_tbl, vwCl, Gr)) (hg2 : ip_gk (lg_tbl, vwCl, Gr2)) (hw1 : 1 ≤ w) (hw : w ≤ 32) (hi : ∀ t, inb t = 0 ∨ inb t = 1) (cx : CTX S T N M) (h0 : MXS inb wb w act Av S T rf cd hrb hr st B C) (an : aNum w S T r i i' j j') (hj : j + 1 < M) (hhr : hr < 4200) : OX l l2 Gr Gr2 n w d d2 inb wb act Av S T rf cd hrb r j j' hr st B C := by
  obtain ⟨v, hv, e0, e1, e2, s4, s5, t1, t2, t82⟩ := an
  subst e0 e1 e2
  have hM := cx.2.2.2
  have hv2 : v % 2 ^ w < 2 ^ w := Nat.mod_lt _ (Nat.two_pow_pos w)
  have h32 : 2 ^ w ≤ 2 ^ 32 := Nat.pow_le_pow_right (by omega) hw
  refine OU_seq (OU_step (cs := fun _ => True) hg hg2 hw1 hw hi cx.2.2.1 hM (by omega) t1 h0) (fun B1 C1 st1 x1 _ => OU_fin (k := 0) (p := cRet (fun x => bC ((v % 2 ^ w).testBit x))) (v := v % 2 ^ w) hw1 hw hi x1 h0.2.2.1 ?_ hv2 (cWF_ret (fun x _ => V2_bC hi)) (cm_pu (k := hr) (z := 2) hg2 cx.2.2.1 hM hj t2 (by omega) x1.2.1 (fun t => mo_num (d := d2 + 1) hg2 (by omega) hhr (x1.2.1 t).2.1 (((x1.2.1 t).1.2.1 78 (j + 1) (by omega)).trans t2)) (fun t => ((x1.2.1 t).1.2.2 (j + 1)).trans t82)))
  obtain ⟨B2, q, g⟩ := mk_1 (l := l) (n := n) (w := w) (d := d) (z := 2) hg cx x1.1.1 x1.1.2.1 hj t2 (by omega) (mo_2 (d := d + 5) (q := hr) (v := v % 2 ^ w) hg hw hhr (by omega) ((x1.1.1.2.1 78 (j + 1) (by omega)).trans t2) ((x1.1.1.2.2 (j + 1)).trans t82) (by omega) x1.1.2.2.2.1)
  exact ⟨B2, g, OPe_d q⟩
theorem ox_tru (hg : ip_gk (lg_tbl, vwCl, Gr)) (hg2 : ip_gk (lg_tbl, vwCl, Gr2)) (hw1 : 1 ≤ w) (hw : w ≤ 32) (hi : ∀ t, inb t = 0 ∨ inb t = 1) (cx : CTX S T N M) (h0 : MXS inb wb w act Av S T rf cd hrb hr st B C) (an : aTru S T r i i' j j') (hj : j + 1 < M) (hhr : hr < 4200) : OX l l2 Gr Gr2 n w d d2 inb wb act Av S T rf cd hrb r j j' hr st B C := by
  obtain ⟨e0, e1, e2, s4, t1, hb⟩ := an
  subst e0 e1 e2
  have hM := cx.2.2.2
  obtain ⟨b, t2⟩ : ∃ b : Bool, T.1 78 (j + 1) = if bC b = -1 then 3 else 4 := by
    rcases hb with ⟨-, q⟩ | ⟨-, q⟩
    · exact ⟨true, q⟩
    · exact ⟨false, q⟩
  obtain ⟨z, hz, tz⟩ : ∃ z, (z = 3 ∨ z = 4) ∧ T.1 78 (j + 1) = nI z := by
    rcases hb with ⟨-, q⟩ | ⟨-, q⟩
    · exact ⟨3, Or.inl rfl, q⟩
    · exact ⟨4, Or.inr rfl, q⟩
  have hbt : ∀ x, x < 1 → (b.toNat).testBit x = b := fun x hx => by
    have : x = 0 := by omega
    subst this
    cases b <;> rfl
  refine OU_seq (OU_step (cs := fun _ => True) hg hg2 hw1 hw hi cx.2.2.1 hM (by omega) t1 h0) (fun B1 C1 st1 x1 _ => OU_fin (k := 0) (p := cRet (fun _ => bC b)) (v := b.toNat) hw1 hw hi x1 h0.2.2.1 ?_ (by show b.toNat < 2; cases b <;> decide) (cWF_ret (fun x hx => by rw [hbt x hx]; exact V2_bC hi)) (cm_pu (k := hr) (z := z) hg2 cx.2.2.1 hM hj tz (by omega) x1.2.1 (fun t => mo_tf (d := d2 + 1) hg2 (by omega) hhr (x1.2.1 t).2.1 ?_) (fun t => ?_)))
  · obtain ⟨B2, q, g⟩ := mk_1 (l := l) (n := n) (w := w) (d := d) (z := z) hg cx x1.1.1 x1.1.2.1 hj tz (by omega) (mo_3 (d := d + 5) (q := hr) (x := bC b) hg hw hhr (by omega) ((x1.1.1.2.1 78 (j + 1) (by omega)).trans t2) (by cases b; exact Or.inr rfl; exact Or.inl rfl) x1.1.2.2.2.1)
    exact ⟨B2, g, OPe_d q⟩
  · rw [(x1.2.1 t).1.2.1 78 (j + 1) (by omega), tz]
    rcases hz with e | e <;> subst e
    · exact Or.inl rfl
    · exact Or.inr rfl
  · rw [(x1.2.1 t).1.2.1 78 (j + 1) (by omega), t2]
    cases b <;> rfl
theorem ox_nam (hg : ip_gk (lg_tbl, vwCl, Gr)) (hg2 : ip_gk (lg_tbl, vwCl, Gr2)) (hw1 : 1 ≤ w) (hw : w ≤ 32) (hi : ∀ t, inb t = 0 ∨ inb t = 1) (cx : CTX S T N M) (h0 : MXS inb wb w act Av S T rf cd hrb hr st B C) (av : AvO S Av cd) (hcd : cd ≤ 285) (an : aNam D Av S T r i i' j j') (hj : j + 1 < M) (hhr : hr < 4200) : OX l l2 Gr Gr2 n w d d2 inb wb act Av S T rf cd hrb r j j' hr st B C := by
  obtain ⟨e, k, a, ⟨q1, q2, q3, q4, q5, q6, q7, q8, q9, q10, q11, q12, q13, q14⟩, hk4, e1, e2, s4, s5, t1, t2⟩ := an
  subst e1 e2
  have hM := cx.2.2.2
  have hj2 : j + 1 < 12000 := by omega
  refine OU_seq (OU_step (cs := fun _ => True) hg hg2 hw1 hw hi cx.2.2.1 hM (by omega) t1 h0) (fun B1 C1 st1 x1 _ => ?_)
  have E := x1.2.2.2 e a r 0 q6 q3 (by omega) q8 q9
  have mc : ∀ c, 102 ≤ c → c ≤ 105 → B1.1 c (j + 1) = T.1 c (j + 1) := fun c a1 a2 => x1.1.1.2.1 c _ (by omega)
  have cc : ∀ c, act → 102 ≤ c → c ≤ 104 → C1.1 c (j + 1) = T.1 c (j + 1) := fun c t a1 a2 => (x1.2.1 t).1.2.1 c _ (by omega)
  have b85 := x1.1.2.2.2.1
  have c78 : act → C1.1 78 (j + 1) = 5 := fun t => ((x1.2.1 t).1.2.1 78 (j + 1) (by omega)).trans t2
  have np : ∀ {P : Prop}, ¬ k = 2 → PB T j (j + 2) → P := fun {P} hk pb => by
    have y := (pb (j + 1) (by omega) (by omega)).2.2 t2
    rw [q11] at y
    exact absurd ((nI_eq (b := 3) (by omega) (by omega)).mp y) (by omega)
  have mw : ∀ R : zS → Prop, zMv l Gr (zc n w) 168 M_Mo_named (d + 10) [.ref 105, .int (nI (j + 1))] B1 R → ∃ B', R B' ∧ MGo l Gr n w d B1 (j + 1) B' (j + 2) := fun R q => mk_1 (l := l) (n := n) (w := w) (d := d) (z := 5) hg cx x1.1.1 x1.1.2.1 hj t2 (by omega) (mo_5 (d := d + 5) hg hj2 ((x1.1.1.2.1 78 (j + 1) (by omega)).trans t2) q)
  have x115 := fun t : act => (x1.2.1 t).2.1
  have hk : k = 0 ∨ k = 1 ∨ k = 2 ∨ k = 3 := by omega
  rcases hk with e0 | e0 | e0 | e0
  · subst e0
    obtain ⟨ha, E⟩ := E.1 q7
    obtain ⟨v, v1, v2, v3⟩ := E 0 (by omega)
    rw [Nat.add_zero] at v2 v3
    refine OU_fin (k := 0) (p := cRet (fun x => 2 * (B1.1 117 a + nI x))) (v := v) hw1 hw hi x1 h0.2.2.1 ?_ v1 (cWF_ret (fun x hx => ⟨v3 x hx, fun pb => np (by omega) pb⟩)) (cm_pu (k := hr) (z := 5) hg2 cx.2.2.1 hM hj t2 (by omega) x1.2.1 (fun t => mo_inp (d := d2 + 1) hg2 hj2 hhr (x115 t) (c78 t) ((cc 102 t (by omega) (by omega)).trans q11) ((cc 103 t (by omega) (by omega)).trans q12) (by omega)) v2)
    obtain ⟨B2, q, g⟩ := mw _ (wm_named0 (d := d + 9) (a := a) (r := r) (q := hr) hg hw hw1 hhr hj2 q3 rfl ((mc 105 (by omega) (by omega)).trans q14) b85 ((mc 102 (by omega) (by omega)).trans q11) ((mc 103 (by omega) (by omega)).trans q12) (by omega))
    exact ⟨B2, g, OPe_d q⟩
  · subst e0
    obtain ⟨ha, E⟩ := E.2.1 q7
    obtain ⟨v, v1, v2, v3⟩ := E 0 (by omega)
    rw [Nat.add_zero] at v2 v3
    refine OU_fin (k := 0) (p := cRet (fun x => B1.1 132 (32 * a + x))) (v := v) hw1 hw hi x1 h0.2.2.1 ?_ v1 (cWF_ret (fun x hx => ⟨v3 x hx, fun pb => np (by omega) pb⟩)) (cm_pu (k := hr) (z := 5) hg2 cx.2.2.1 hM hj t2 (by omega) x1.2.1 (fun t => mo_var (d := d2 + 1) hg2 hj2 hhr (x115 t) (c78 t) ((cc 102 t (by omega) (by omega)).trans q11) ((cc 103 t (by omega) (by omega)).trans q12) (by omega)) v2)
    obtain ⟨B2, q, g⟩ := mw _ (wm_named1 (d := d + 9) (a := a) (r := r) (q := hr) hg hw hw1 hhr hj2 q3 rfl ((mc 105 (by omega) (by omega)).trans q14) b85 ((mc 102 (by omega) (by omega)).trans q11) ((mc 103 (by omega) (by omega)).trans q12) (by omega))
    exact ⟨B2, g, OPe_d q⟩
  · subst e0
    have hr0 : r = 0 := by
      have := (av e a q6).1 q7
      rw [q8] at this
      exact (nI_eq (b := 0) (by omega) (by omega)).mp this
    subst hr0
    obtain ⟨v, v1, v2, v3⟩ := E.2.2.1 q7
    have h32 : 2 ^ w ≤ 2 ^ 32 := Nat.pow_le_pow_right (by omega) hw
    refine OU_fin (k := 0) (p := cRet (fun x => bC (v.testBit x))) (v := v) hw1 hw hi x1 h0.2.2.1 ?_ v1 (cWF_ret (fun x hx => V2_bC hi)) (cm_pu (k := hr) (z := 5) hg2 cx.2.2.1 hM hj t2 (by omega) x1.2.1 (fun t => mo_loop (d := d2 + 1) hg2 hw hj2 hhr (x115 t) (c78 t) ((cc 102 t (by omega) (by omega)).trans q11) ((cc 103 t (by omega) (by omega)).trans q12) (by omega) (v3 t)) (fun _ => by rw [Nat.mod_eq_of_lt v1]))
    obtain ⟨B2, q, g⟩ := mw _ (wm_named2 (d := d + 9) (a := a) (r := 0) (q := hr) (v := v) hg hw hw1 hhr hj2 q3 rfl ((mc 105 (by omega) (by omega)).trans q14) b85 ((mc 102 (by omega) (by omega)).trans q11) ((mc 103 (by omega) (by omega)).trans q12) q5 (by omega) v2)
    exact ⟨B2, g, OPe_d q⟩
  · subst e0
    obtain ⟨ha, v, v1, v2, v3⟩ := E.2.2.2 q7
    have cp := (av e a q6).2.2 q7
    have hh := x1.2.2.1
    have hh : hrb ≤ hr := hh
    refine OU_fin (k := 0) (p := cRet (fun x => B1.1 122 (32 * (rf + a) + x))) (v := v) hw1 hw hi x1 h0.2.2.1 ?_ v1 (cWF_ret (fun x hx => ⟨v3 x hx, fun pb => np (by omega) pb⟩)) (cm_pu (k := hr) (z := 5) hg2 cx.2.2.1 hM hj t2 (by omega) x1.2.1 (fun t => mo_par (d := d2 + 1) (f := cd - 1) (b0 := rf) hg2 hj2 hhr (x115 t) (c78 t) (by rw [cc 102 t (by omega) (by omega), q11]; decide) (by rw [cc 102 t (by omega) (by omega), q11]; decide) (by rw [cc 102 t (by omega) (by omega), q11]; decide) ((cc 103 t (by omega) (by omega)).trans q12) (by omega) (by rw [show cd - 1 + 1 = cd by omega]; exact (x1.2.1 t).2.2.1) ((x1.2.1 t).2.2.2 cp) (by omega)) v2)
    obtain ⟨B2, q, g⟩ := mw _ (wm_named3 (d := d + 9) (a := a) (r := r) (q := hr) (cd := cd - 1) (rf := rf) hg hw hw1 hhr hj2 q3 rfl ((mc 105 (by omega) (by omega)).trans q14) b85 ((mc 102 (by omega) (by omega)).trans q11) ((mc 103 (by omega) (by omega)).trans q12) (by rw [show cd - 1 + 1 = cd by omega]; exact x1.1.2.2.2.2.2.2.1) (by omega) (x1.1.2.2.2.2.2.2.2 cp) (by omega))
    exact ⟨B2, g, OPe_d q⟩
theorem PB_1r (h : PB T j (j1 + 1)) : PB T j j1 := fun x a b => h x a (by omega)
theorem ox_int (hg : ip_gk (lg_tbl, vwCl, Gr)) (hg2 : ip_gk (lg_tbl, vwCl, Gr2)) (hw1 : 1 ≤ w) (hw : w ≤ 32) (hi : ∀ t, inb t = 0 ∨ inb t = 1) (cx : CTX S T N M) (hb : hrb ≤ hr) (h1 : OU l l2 Gr Gr2 n w d d2 inb wb act Av S T rf cd hrb [1] (fun _ => c) j j1 hr st B C) (t1 : T.1 78 j1 = 10) (hj : j1 < M) (hhr : hr < 4200) : OU l l2 Gr Gr2 n w d d2 inb wb act Av S T rf cd hrb [0] (fun _ => c) j (j1 + 1) hr st B C := by
  have hM := cx.2.2.2
  refine OU_seq h1 (fun B1 C1 st1 x1 o1 => ?_)
  obtain ⟨v, v1, v2, v3⟩ := o1 0 (Nat.succ_pos _)
  have v1 : v < 2 ^ 1 := v1
  have v2 : act → C1.2 147 hr = lN v := v2
  have v3 : V2 inb wb c B1 (B1.1 122 (32 * hr)) (v.testBit 0) := v3 0 (by show 0 < 1; omega)
  have hp : 2 ^ 1 ≤ 2 ^ w := Nat.pow_le_pow_right (by omega) hw1
  refine OU_fin (k := 1) (p := cRet (fun x => if x = 0 then B1.1 122 (32 * hr) else -2)) (v := v) hw1 hw hi x1 hb ?_ (by show v < 2 ^ w; omega) (cWF_ret (fun x hx => ?_)) (cm_any (k := hr + 1) (z := 10) (X := C1) hg2 cx.2.2.1 hM hj t1 (by omega) x1.2.1 (fun t => mo_nop (d := d2 + 1) (z := 10) (by omega) (((x1.2.1 t).1.2.1 78 j1 (by omega)).trans t1) (by omega)) (fun t => ⟨FC_rfl, (x1.2.1 t).2.1, rfl, v2 t⟩))
  · obtain ⟨B2, q, g⟩ := mk_1 (l := l) (n := n) (w := w) (d := d) (z := 10) hg cx x1.1.1 x1.1.2.1 hj t1 (by omega) (mo_10 (d := d + 5) (q := hr) (x := B1.1 122 (32 * hr)) hg hw hw1 hhr (by omega) ((x1.1.1.2.1 78 j1 (by omega)).trans t1) x1.1.2.2.2.1 rfl)
    exact ⟨B2, g, OPe_d q⟩
  · by_cases z : x = 0
    · subst z
      exact v3
    · show V2 inb wb c B1 (if x = 0 then B1.1 122 (32 * hr) else -2) (v.testBit x)
      rw [if_neg z, show v.testBit x = false from Nat.testBit_lt_two_pow (Nat.lt_of_lt_of_le v1 (Nat.pow_le_pow_right (by omega) (by omega)))]
      exact (SV_2 hi).2.2.2.2.2 B1
theorem ox_una (hg : ip_gk (lg_tbl, vwCl, Gr)) (hg2 : ip_gk (lg_tbl, vwCl, Gr2)) (hw1 : 1 ≤ w) (hw : w ≤ 32) (hi : ∀ t, inb t = 0 ∨ inb t = 1) (cx : CTX S T N M) (hb : hrb ≤ hr) (h1 : OU l l2 Gr Gr2 n w d d2 inb wb act Av S T rf cd hrb [r] (fun _ => c) j j1 hr st B C) (t1 : T.1 78 j1 = 12) (an : (T.1 79 j1 = 45 ∧ r = 0) ∨ (T.1 79 j1 = 126 ∧ r = 0) ∨ (T.1 79 j1 = 33 ∧ r = 1)) (hj : j1 < M) (hhr : hr < 4200) : OU l l2 Gr Gr2 n w d d2 inb wb act Av S T rf cd hrb [r] (fun _ => c) j (j1 + 1) hr st B C := by
  have hM := cx.2.2.2
  refine OU_seq h1 (fun B1 C1 st1 x1 o1 => ?_)
  obtain ⟨v, v1, v2, v3⟩ := o1 0 (Nat.succ_pos _)
  have v1 : v < 2 ^ bw w r := v1
  have v2 : act → C1.2 147 hr = lN v := v2
  have v3 : ∀ x, x < bw w r → V2 inb wb c B1 (B1.1 122 (32 * hr + x)) (v.testBit x) := v3
  have vw : v < 2 ^ w := Nat.lt_of_lt_of_le v1 (p2_bw hw1)
  have fx := opf_V2 hi v3
  have vx := opf_vc x1.1.2.2.1 x1.1.2.1 v3
  have b78 : B1.1 78 j1 = 12 := (x1.1.1.2.1 78 j1 (by omega)).trans t1
  have b79 : B1.1 79 j1 = T.1 79 j1 := x1.1.1.2.1 79 j1 (by omega)
  have c78 : act → C1.1 78 j1 = 12 := fun t => ((x1.2.1 t).1.2.1 78 j1 (by omega)).trans t1
  have c79 : act → C1.1 79 j1 = T.1 79 j1 := fun t => (x1.2.1 t).1.2.1 79 j1 (by omega)
  have bx : ∀ x, x < bw w r → B1.1 122 (32 * hr + x) = opf (bw w r) (B1.1 122) (32 * hr) x := fun x hx => (opf_at hx).symm
  have mw : ∀ (y : Int32) (R : zS → Prop), T.1 79 j1 = y → zMv l Gr (zc n w) 168 M_Mo_unary (d + 10) [.ref 105, .int y] B1 R → ∃ B', R B' ∧ MGo l Gr n w d B1 j1 B' (j1 + 1) := fun y R e q => mk_1 (l := l) (n := n) (w := w) (d := d) (z := 12) hg cx x1.1.1 x1.1.2.1 hj t1 (by omega) (mo_12 (d := d + 5) (x := y) hg (by omega) b78 (b79.trans e) q)
  have cm : ∀ (y : Int32), T.1 79 j1 = y → (y = 33 → v ≤ 1) → ∃ C2, act → NGo l2 Gr2 n w d2 C1 j1 C2 (j1 + 1) ∧ FC hr cd C1 C2 ∧ C2.1 73 115 = nI (hr + 1) ∧ C2.1 73 110 = C1.1 73 110 ∧ C2.2 147 hr = lN (unN w y v) := fun y e hy => cm_any (k := hr + 1) (z := 12) (X := zj C1 147 hr (lN (unN w y v))) hg2 cx.2.2.1 hM hj t1 (by omega) x1.2.1 (fun t => by
    have := mo_un (l := l2) (Gr := Gr2) (n := n) (d := d2 + 1) (h := hr) hw (by omega) (by omega) (x1.2.1 t).2.1 (c78 t) (v2 t) vw (fun z => hy (by rw [← e, ← c79 t]; exact z))
    rw [c79 t, e] at this
    exact this) (fun t => ⟨⟨fun _ _ _ _ => rfl, fun c k q => by rw [zj_get, if_neg (by omega)]⟩, (x1.2.1 t).2.1, rfl, by rw [zj_get, if_pos ⟨rfl, rfl⟩]⟩)
  have flip : ∀ (y : Int32), (∀ x, x < bw w r → (unN w y v).testBit x = !v.testBit x) → cWF (V2 inb wb c) Exk (fun T f => ∀ x, x < bw w r → V2 inb wb c T (f x) ((unN w y v).testBit x)) (cRet (fun x => opf (bw w r) (B1.1 122) (32 * hr) x ^^^ 1)) B1 := fun y hy => cWF_ret (fun x hx => by
    rw [hy x hx]
    exact (SV_2 hi).2.2.2.1 _ _ _ (fx x hx))
  have nt : ∀ x, x < w → (2 ^ w - 1 - v).testBit x = !v.testBit x := fun x hx => by
    have := Nat.testBit_two_pow_sub_succ vw x
    rw [show 2 ^ w - 1 - v = 2 ^ w - (v + 1) by omega, this, decide_eq_true hx, Bool.true_and]
  rcases an with ⟨e, e0⟩ | ⟨e, e0⟩ | ⟨e, e0⟩
  · subst e0
    refine OU_fin (k := 1) (p := negP w (opf (bw w 0) (B1.1 122) (32 * hr))) (v := unN w 45 v) hw1 hw hi x1 hb ?_ (Nat.mod_lt _ (Nat.two_pow_pos w)) (cWF_imp (fun T f q x hx => ?_) (v_neg (SV_2 hi) vw fx)) (cm 45 e (fun z => absurd z (by decide)))
    · obtain ⟨B2, q, g⟩ := mw _ _ e (wm_neg (d := d + 6) (T := B1) (q := hr) (X := opf (bw w 0) (B1.1 122) (32 * hr)) hg hw hhr MEc_rfl x1.1.2.2.1.1 x1.1.2.2.2.1 vx bx)
      exact ⟨B2, g, OPe_d q⟩
    · have hx : x < w := hx
      show V2 inb wb c T (f x) (((2 ^ w - v) % 2 ^ w).testBit x)
      rw [Nat.testBit_mod_two_pow, decide_eq_true hx, Bool.true_and]
      exact q x hx
  · subst e0
    refine OU_fin (k := 1) (p := cRet (fun x => opf (bw w 0) (B1.1 122) (32 * hr) x ^^^ 1)) (v := unN w 126 v) hw1 hw hi x1 hb ?_ (by show 2 ^ w - 1 - v < 2 ^ w; have := Nat.two_pow_pos w; omega) (flip 126 nt) (cm 126 e (fun z => absurd z (by decide)))
    obtain ⟨B2, q, g⟩ := mw _ _ e (wm_not (d := d + 6) (T := B1) (q := hr) (m := w) (X := opf (bw w 0) (B1.1 122) (32 * hr)) hg hw hw1 hhr (by decide) (by rw [if_neg (by decide)]) MEc_rfl x1.1.2.2.2.1 bx)
    exact ⟨B2, g, OPe_d q⟩
  · subst e0
    have v1 : v < 2 ^ 1 := v1
    refine OU_fin (k := 1) (p := cRet (fun x => opf (bw w 1) (B1.1 122) (32 * hr) x ^^^ 1)) (v := unN w 33 v) hw1 hw hi x1 hb ?_ (by show 1 - v < 2; omega) (flip 33 (fun x hx => ?_)) (cm 33 e (fun _ => by omega))
    · obtain ⟨B2, q, g⟩ := mw _ _ e (wm_not (d := d + 6) (T := B1) (q := hr) (m := 1) (X := opf (bw w 1) (B1.1 122) (32 * hr)) hg hw hw1 hhr (by decide) (by rw [if_pos rfl]) MEc_rfl x1.1.2.2.2.1 bx)
      exact ⟨B2, g, OPe_d q⟩
    · have hx : x < 1 := hx
      have ex : x = 0 := by omega
      subst ex
      show (1 - v).testBit 0 = !v.testBit 0
      have : v = 0 ∨ v = 1 := by omega
      rcases this with e | e <;> subst e <;> rfl
end NOD
