/-! a bit of a message, on both; message() -/
section BIT
variable {l : Launch} {Gr : zG} {n w d d' f t r i Dm ob : Nat} {own av : Nat → Nat} {S S' : zS} {x1 x2 x3 : Int32} {Q : Option Value → zS → Prop}
theorem bt_both (hg : ip_gk (lg_tbl, vwCl, Gr)) (hn : 2 ≤ n ∧ n ≤ 16) (hw : 1 ≤ w ∧ w ≤ 32) (hC : iCk n w S) (hS : iSh S) (hD : Dm ≤ 2000) (hB : LNb n Dm own av ob) (n1 : LNc n Dm own av ob S) (hf : f < n) (ht : t < n) (hr : r ≤ Dm + 1) (hi : i < lnF own av Dm ob f r) : ∃ v : Int32, zMi l Gr (zc n w) 168 M_Post_bitOf (d + 2) [.ref 97, .int (eMs (f, t, r)), .int (nI i)] S (fun y S' => y = v ∧ S' = S) ∧ zMi l Gr (zc n w) 168 M_Mo_sentBit (d' + 2) [.ref 105, .int (nI f), .int (nI t), .int (nI r), .int (nI i)] S (fun y S' => y = v ∧ S' = S) := by
  obtain ⟨G, wb, iw, f1, f2, f3, f4, f5, f6, f7, f8, f9, f10, f11, f12, f13, f14⟩ := dl_f hn.2 hw hC
  obtain ⟨G', wb', iw', vm, k1, k2, k3, k4, k5, k6, k7, k8, k9, k10⟩ := hS
  have eG : G' = G := (nI_eq (by omega) (by omega)).mp (k4.symm.trans f7)
  have eW : wb' = wb := (nI_eq (by omega) (by omega)).mp (k5.symm.trans f9)
  subst eG eW
  obtain ⟨g0, Dm0, iw0, no, bo, ceq, hno, ⟨o11, o69, b0, o31, ot⟩, h145, ⟨j1, j2, j3, j4, j5, j6, j7⟩, hst, gl, ml, l1, l2, l3⟩ := hC
  have eiw : iw0 = iw := (nI_eq (by omega) (by omega)).mp (j2.symm.trans f5)
  subst eiw
  have eg0 : g0 = G' := (nI_eq (by have := gl.2.1; omega) (by omega)).mp (gl.1.symm.trans f7)
  subst eg0
  have h24 : S.1 24 6 = nI Dm := n1.1
  have h68 : S.1 73 68 = nI Dm := by
    obtain ⟨gg, wb0, hgg, hwb0, q4, q66, q8, q65, q5, q67, q6, -⟩ := ceq
    rw [← q6]
    exact h24
  have eD : Dm0 = Dm := (nI_eq (by have := ml.2.2.2.1; omega) (by omega)).mp (ml.2.2.1.symm.trans h68)
  subst eD
  have cf : f < 16 := by omega
  have ct : t < 16 := by omega
  have cA : ∀ {x : Int32}, (¬ nI r = 0 → zW l Gr (zc n w) 168 M_Post_bitOf (d + 2) 38 [some (.ref 97), some (.int (eMs (f, t, r))), some (.int (nI i)), some (.int (nI r)), none, none, none] [] S (fun v S' => ∃ y, v = some (.int y) ∧ y = x ∧ S' = S)) → (nI r = 0 → zW l Gr (zc n w) 168 M_Post_bitOf (d + 2) 9 [some (.ref 97), some (.int (eMs (f, t, r))), some (.int (nI i)), none, none, none, none] [] S (fun v S' => ∃ y, v = some (.int y) ∧ y = x ∧ S' = S)) → zMi l Gr (zc n w) 168 M_Post_bitOf (d + 2) [.ref 97, .int (eMs (f, t, r)), .int (nI i)] S (fun y S' => y = x ∧ S' = S) := fun q1 q2 => by
    refine e_Post_bitOf (b_Post_bitOf_0 hg (w_round cf ct (by omega)) (fun v S1 e => ?_))
    obtain ⟨rfl, rfl⟩ := e
    exact b_Post_bitOf_4 q1 q2
  by_cases z0 : r = 0
  · have eo : own f = iQ S f iw0 := by
      have a := (n1.2.1 f hf).symm.trans (j7 f hf).1
      have b := hB.1 f hf
      have c := iQ_le (S := S) (y := f) iw0
      rw [iW_Wb, ← f4] at c
      exact (nI_eq (by omega) (by omega)).mp a
    unfold lnF at hi
    rw [if_pos z0, eo] at hi
    have hq8 : iQ S f iw0 ≤ 8192 := by rw [← eo]; exact hB.1 f hf
    obtain ⟨a, j, a1, a2, a3, rfl⟩ := iq_ex iw0 i hi
    have hWa := Wb_le (bt := iB S) a1
    have e0 : nI r = 0 := by rw [z0]; rfl
    have hin : ∀ b, b < iw0 → iO S b < 16 ∧ iB S b ≤ 32 ∧ S.1 18 b = nI (iO S b) ∧ S.1 19 b = nI (iB S b) ∧ S.1 20 b = nI (Wb (iB S) b) := fun b hb => by
      obtain ⟨i1, i2, -, i4, i5, i6, -⟩ := f12 b hb
      exact ⟨by omega, by omega, i4, i5, i6⟩
    have him : ∀ b, b < iw0 → iO S b < 16 ∧ iB S b ≤ 32 ∧ S.1 115 b = nI (iO S b) ∧ S.1 116 b = nI (iB S b) ∧ S.1 117 b = nI (Wb (iB S) b) := fun b hb => by
      obtain ⟨i1, i2, -, -, -, -, i7, i8, i9, -⟩ := f12 b hb
      exact ⟨by omega, by omega, i7, i8, i9⟩
    refine ⟨(S.1 151 (Wb (iB S) a + j) >>> (nI t &&& 31)) &&& 1, cA (fun y => absurd e0 y) (fun _ => b_Post_bitOf_9 hg (w_from cf) (fun v S1 e => ?_)), e_Mo_sentBit (b_Mo_sentBit_0 (fun y => absurd e0 y) (fun _ => b_Mo_sentBit_4 (sb_11 f3 him hq8 cf (by rw [← f4]; exact k2) a1 a2 a3 ⟨_, rfl, rfl, rfl⟩ a 0 (by omega))))⟩
    obtain ⟨rfl, rfl⟩ := e
    refine b_Post_bitOf_22 hg (R := fun v S' => v = nI (Wb (iB S1) a + j) ∧ S' = S1) (e_Inputs_wireOf (b_Inputs_wireOf_0 (wo_5 f3 f5 hin hq8 cf a1 a2 a3 ⟨_, rfl, rfl, rfl⟩ a 0 (by omega)))) (fun v S2 e => ?_)
    obtain ⟨rfl, rfl⟩ := e
    refine b_Post_bitOf_26 hg (by rw [nI_mul2]; exact w_sho hw.2 (Or.inr ⟨2 * (Wb (iB S2) a + j), by omega, rfl⟩)) (fun v S3 e => ?_)
    obtain ⟨rfl, rfl⟩ := e
    refine b_Post_bitOf_30 hg (w_to cf ct (by omega)) (fun v S4 e => ?_)
    obtain ⟨rfl, rfl⟩ := e
    refine b_Post_bitOf_34 ⟨_, rfl, ?_, rfl⟩
    rw [shK_2k (by omega), k8 _ (by omega)]
  · have n0 : ¬ nI r = 0 := fun y => z0 ((nI_eq (b := 0) (by omega) (by omega)).mp y)
    unfold lnF at hi
    rw [if_neg z0] at hi
    by_cases zD : r ≤ Dm0
    · rw [if_pos zD] at hi
      have ea : av r = cL (gAn S) (gLv S) r g0 := by
        have a := n1.2.2.1 r (by omega) zD
        rw [l1 (r + 1) (by omega) (by omega), l1 r (by omega) (by omega), sL_s, Nat.add_comm, nI_subb] at a
        have b := hB.2.1 r (by omega) zD
        have c := sL_s (an := gAn S) (lv := gLv S) (L := r) g0
        have e := sL_le (an := gAn S) (lv := gLv S) (L := r + 1) g0
        exact ((nI_eq (by omega) (by omega)).mp a).symm
      obtain ⟨x, y1, y2, y3, y4⟩ := cLx_ex (an := gAn S) (lv := gLv S) (L := r) g0 (i / 2) (by omega)
      have hav := hB.2.1 r (by omega) zD
      have hsl := sL_le (an := gAn S) (lv := gLv S) (L := r + 1) g0
      have hss := sL_s (an := gAn S) (lv := gLv S) (L := r) g0
      have hq := l3 x y1 y2
      unfold qLv at hq
      rw [y3, y4] at hq
      obtain ⟨u1, u2, u3, u4, u5⟩ := f14 x y1
      rw [if_pos y2] at u3
      have hx1 := aNb_n (S := S) x
      obtain ⟨t1, t2, t3⟩ := k9 x y1 (u5.mpr y2)
      obtain ⟨⟨xa, ha, eXa'⟩, xb, hb, eXb'⟩ := f13 x y1
      have eXa : S.1 113 x = nI xa := eXa'
      have eXb : S.1 114 x = nI xb := eXb'
      have cx : (nI x).toNatClampNeg = x := nI_clamp (by omega)
      have vx : vp_in (nI x) 40000 := vp_in_nI (by omega) (by omega)
      have hh : nI i / 2 = nI (i / 2) := nI_half (by omega)
      have ho : nI i &&& 1 = nI (i % 2) := nI_odd i
      have hrem : nI i - nI i / 2 * 2 = nI (i % 2) := pk_rem (d := 2) (by omega) (by omega) (by omega)
      have s25 : shK 64 S (S.1 113 x) = shK 151 S (S.1 113 x) := by
        rw [eXa]
        exact shK_eq (by omega) (k8 _ (by omega))
      have s26 : shK 64 S (S.1 114 x) = shK 151 S (S.1 114 x) := by
        rw [eXb]
        exact shK_eq (by omega) (k8 _ (by omega))
      have andL : zMi l Gr (zc n w) 168 M_Circuit_andOfLevel (d + 1) [.ref 56, .int (nI r), .int (nI (i / 2))] S (fun v S' => v = nI x ∧ S' = S) := by
        refine e_Circuit_andOfLevel (b_Circuit_andOfLevel_0 (fun y => absurd y (nI_pos (by omega))) (fun _ => b_Circuit_andOfLevel_4 hg (R := fun v S' => v = nI (av r) ∧ S' = S) (e_Circuit_andsOfLevel (b_Circuit_andsOfLevel_0 (fun q => absurd q (nI_pos (by omega))) (fun _ => b_Circuit_andsOfLevel_4 (fun _ => b_Circuit_andsOfLevel_15 (by rw [show nI r + 1 = nI (r + 1) from nI_add _ 1]; exact vp_in_nI (by omega) (by omega)) (vp_in_nI (by omega) (by omega)) (b_Circuit_andsOfLevel_30 ⟨_, rfl, ?_, rfl⟩)) (fun q => absurd ((nI_leI (b := 2000) (by omega) (by omega)).mpr (by omega)) q)))) (fun v S1 e => ?_)))
        · rw [show nI r + 1 = nI (r + 1) from nI_add _ 1, nI_clamp (by omega), nI_clamp (by omega)]
          exact n1.2.2.1 r (by omega) zD
        · obtain ⟨rfl, rfl⟩ := e
          have eI : S1.1 30 (nI r).toNatClampNeg + nI (i / 2) = nI (sL (gAn S1) (gLv S1) r g0 + i / 2) := by rw [nI_clamp (by omega), l1 r (by omega) (by omega), nI_add]
          refine b_Circuit_andOfLevel_10 (fun _ => b_Circuit_andOfLevel_17 (vp_in_nI (by omega) (by omega)) (by rw [eI]; exact vp_in_nI (by omega) (by omega)) (b_Circuit_andOfLevel_30 ⟨_, rfl, ?_, rfl⟩)) (fun y => absurd ((nI_ltI (by omega) (by omega)).mpr (by omega)) y)
          rw [eI, nI_clamp (by omega)]
          exact hq.1
      have tail : ∀ (wh : Nat) (lit T : Int32), (wh = 0 ∨ wh = 1) → (lit < 0 ∨ ∃ a, a < 2 * (wb' + g0) ∧ lit = nI a) → S.1 (trW (nI wh)) (aNb S x) = T → zW l Gr (zc n w) 168 M_Post_bitOf (d + 2) 122 [some (.ref 97), some (.int (eMs (f, t, r))), none, none, some (.int (nI x)), some (.int (nI wh)), none] [.int lit, .ref 91] S (fun v S' => ∃ y, v = some (.int y) ∧ y = ((shK 64 S lit ^^^ T) >>> (nI f &&& 31)) &&& 1 ∧ S' = S) := fun wh lit T _ hl hT => by
        refine b_Post_bitOf_122 hg (w_sho hw.2 ?_) (fun v S1 e => ?_)
        · rcases hl with q | ⟨q, q1, q2⟩
          · exact Or.inl q
          · exact Or.inr ⟨q, by omega, q2⟩
        · obtain ⟨rfl, rfl⟩ := e
          refine b_Post_bitOf_125 hg (w_from cf) (fun v S2 e => ?_)
          obtain ⟨rfl, rfl⟩ := e
          refine b_Post_bitOf_133 hg vx (w_from cf) (fun v S3 e => ?_)
          obtain ⟨rfl, rfl⟩ := e
          rw [cx, u3]
          refine b_Post_bitOf_156 hg (w_tri (by omega)) (fun v S4 e => ?_)
          obtain ⟨rfl, rfl⟩ := e
          refine b_Post_bitOf_159 ⟨_, rfl, ?_, rfl⟩
          rw [hT]
          exact xor_bit
      have eI2 : S.1 155 (nI r).toNatClampNeg + nI i / 2 = nI (sL (gAn S) (gLv S) r g0 + i / 2) := by rw [hh, nI_clamp (by omega), l2 r (by omega) (by omega), nI_add]
      have e156 : S.1 156 (S.1 155 (nI r).toNatClampNeg + nI i / 2).toNatClampNeg = nI x := by
        rw [eI2, nI_clamp (by omega)]
        exact hq.2
      have v156 : vp_in (S.1 155 (nI r).toNatClampNeg + nI i / 2) 40000 := by rw [eI2]; exact vp_in_nI (by omega) (by omega)
      have cM : ∀ {v : Int32}, (¬ nI (i % 2) = 0 → zW l Gr (zc n w) 168 M_Mo_sentBit (d' + 2) 142 [some (.ref 105), some (.int (nI f)), none, none, none, some (.int (nI x)), none] [] S (fun y S' => ∃ z, y = some (.int z) ∧ z = v ∧ S' = S)) → (nI (i % 2) = 0 → zW l Gr (zc n w) 168 M_Mo_sentBit (d' + 2) 120 [some (.ref 105), some (.int (nI f)), none, none, none, some (.int (nI x)), none] [] S (fun y S' => ∃ z, y = some (.int z) ∧ z = v ∧ S' = S)) → zMi l Gr (zc n w) 168 M_Mo_sentBit (d' + 2) [.ref 105, .int (nI f), .int (nI t), .int (nI r), .int (nI i)] S (fun y S' => y = v ∧ S' = S) := fun q1 q2 =>
        e_Mo_sentBit (b_Mo_sentBit_0 (fun _ => b_Mo_sentBit_87 (fun y => absurd y (by rw [h68]; exact fun q => by have := (nI_ltI (by omega) (by omega)).mp q; omega)) (fun _ => b_Mo_sentBit_95 (vp_in_nI (by omega) (by omega)) v156 (fun y => by rw [e156]; exact q1 (by rw [hrem] at y; exact y)) (fun y => by rw [e156]; exact q2 (by rw [hrem] at y; exact y)))) (fun y => absurd y n0))
      have cA2 : ∀ {v : Int32}, (¬ nI (i % 2) = 0 → zW l Gr (zc n w) 168 M_Post_bitOf (d + 2) 112 [some (.ref 97), some (.int (eMs (f, t, r))), none, none, some (.int (nI x)), some (.int (nI (i % 2))), none] [.ref 91] S (fun y S' => ∃ z, y = some (.int z) ∧ z = v ∧ S' = S)) → (nI (i % 2) = 0 → zW l Gr (zc n w) 168 M_Post_bitOf (d + 2) 99 [some (.ref 97), some (.int (eMs (f, t, r))), none, none, some (.int (nI x)), some (.int (nI (i % 2))), none] [.ref 91] S (fun y S' => ∃ z, y = some (.int z) ∧ z = v ∧ S' = S)) → zMi l Gr (zc n w) 168 M_Post_bitOf (d + 2) [.ref 97, .int (eMs (f, t, r)), .int (nI i)] S (fun y S' => y = v ∧ S' = S) := fun {v} q1 q2 => by
        refine cA (fun _ => b_Post_bitOf_38 (fun _ => b_Post_bitOf_72 hg (by rw [hh]; exact andL) (fun v S1 e => ?_)) (fun y => absurd (by rw [h24]; exact (nI_leI (by omega) (by omega)).mpr zD) y)) (fun y => absurd y n0)
        obtain ⟨rfl, rfl⟩ := e
        exact b_Post_bitOf_83 (fun y => by rw [ho] at y ⊢; exact q1 y) (fun y => by rw [ho] at y ⊢; exact q2 y)
      have h2 : i % 2 = 0 ∨ i % 2 = 1 := by omega
      rcases h2 with e | e
      · refine ⟨((shK 64 S (S.1 113 x) ^^^ S.1 152 x) >>> (nI f &&& 31)) &&& 1, cA2 (fun y => absurd (by rw [e]; rfl) y) (fun _ => b_Post_bitOf_99 vx ?_), cM (fun y => absurd (by rw [e]; rfl) y) (fun _ => b_Mo_sentBit_120 hg vx (wm_sho (Or.inr ⟨xa, by omega, by rw [cx]; exact eXa⟩)) (fun v S1 e => ?_))⟩
        · rw [cx, u1]
          exact tail (i % 2) _ _ (by omega) (Or.inr ⟨xa, by omega, eXa⟩) (by rw [e]; exact t1)
        · obtain ⟨rfl, rfl⟩ := e
          refine b_Mo_sentBit_131 vx (b_Mo_sentBit_161 ⟨_, rfl, ?_, rfl⟩)
          rw [cx, s25]
      · refine ⟨((shK 64 S (S.1 114 x) ^^^ S.1 153 x) >>> (nI f &&& 31)) &&& 1, cA2 (fun _ => b_Post_bitOf_112 vx ?_) (fun y => absurd y (by rw [e]; decide)), cM (fun _ => b_Mo_sentBit_142 hg vx (wm_sho (Or.inr ⟨xb, by omega, by rw [cx]; exact eXb⟩)) (fun v S1 e => ?_)) (fun y => absurd y (by rw [e]; decide))⟩
        · rw [cx, u2]
          exact tail (i % 2) _ _ (by omega) (Or.inr ⟨xb, by omega, eXb⟩) (by rw [e]; exact t2)
        · obtain ⟨rfl, rfl⟩ := e
          refine b_Mo_sentBit_153 vx (b_Mo_sentBit_161 ⟨_, rfl, ?_, rfl⟩)
          rw [cx, s26]
    · rw [if_neg zD] at hi
      have hm : ∀ t, t < no → bo t ≤ bo (t + 1) := fun t ht => by
        obtain ⟨m, -, -, m2, -⟩ := ot t ht
        omega
      have hbn : bo no ≤ 14208 := by
        have a := (o31 no (Nat.le_refl _)).2
        have b : no * w ≤ 444 * 32 := Nat.mul_le_mul (by omega) hw.2
        omega
      have eo : ob = bo no := by
        obtain ⟨no', q1, q2, q3⟩ := n1.2.2.2
        have e1 : no' = no := (nI_eq (by omega) (by omega)).mp (q2.symm.trans o11)
        rw [e1] at q3
        have b := hB.2.2
        exact (nI_eq (by omega) (by omega)).mp (q3.symm.trans (o31 no (Nat.le_refl _)).1)
      rw [eo] at hi
      obtain ⟨k, q1, q2, q3⟩ := bo_ex no hm b0 i hi
      obtain ⟨m, m0, m1, m2, m3⟩ := ot k q1
      have hbk := bo_mono hm (b := k + 1) (a := no) (by omega) (Nat.le_refl _)
      have hj : i - bo k < m := by omega
      have e32 := (m3 (i - bo k) hj).1
      have hvc := (m3 (i - bo k) hj).2
      rw [show bo k + (i - bo k) = i by omega] at e32
      have hlit : S.1 121 (32 * k + (i - bo k)) < 0 ∨ ∃ a, a < 2 * (wb' + g0) ∧ S.1 121 (32 * k + (i - bo k)) = nI a := by
        by_cases z : S.1 121 (32 * k + (i - bo k)) < 0
        · exact Or.inl z
        · obtain ⟨a, ha, e⟩ := nI_of z
          rw [e] at hvc
          exact Or.inr ⟨a, vc_lt k1 k2 f10 f8 ha hvc, e⟩
      have hsh : shK 64 S (S.1 121 (32 * k + (i - bo k))) = shK 151 S (S.1 121 (32 * k + (i - bo k))) := by
        rcases hlit with z | ⟨a, ha, e⟩
        · unfold shK
          rw [if_pos z, if_pos z]
        · rw [e]
          exact shK_eq (by omega) (k8 _ (by omega))
      have h120 : ∀ t, t < no → S.1 120 t = nI (bo (t + 1) - bo t) := fun t ht => by
        obtain ⟨m', -, y1, y2, -⟩ := ot t ht
        rw [y1]
        congr 1
        omega
      have h444 : i < 444 * w := by
        have a := (o31 no (Nat.le_refl _)).2
        have b : no * w ≤ 444 * w := Nat.mul_le_mul_right w (by omega)
        omega
      have anyL : zMi l Gr (zc n w) 168 M_Circuit_anyOutputLiteral (d + 1) [.ref 56, .int (nI i)] S (fun v S' => v = S.1 32 i ∧ S' = S) := by
        refine e_Circuit_anyOutputLiteral (b_Circuit_anyOutputLiteral_0 (fun y => absurd y (nI_pos (by omega))) (fun _ => b_Circuit_anyOutputLiteral_4 hg (R := fun v S' => v = nI (bo no) ∧ S' = S) (e_Circuit_allOutputBits (b_Circuit_allOutputBits_0 (by rw [o11]; exact vp_in_nI (by omega) (by omega)) ⟨_, rfl, ?_, rfl⟩)) (fun v S1 e => ?_)))
        · rw [o11, nI_clamp (by omega)]
          exact (o31 no (Nat.le_refl _)).1
        · obtain ⟨rfl, rfl⟩ := e
          refine b_Circuit_anyOutputLiteral_9 (fun _ => b_Circuit_anyOutputLiteral_17 (vp_in_nI h444 (by omega)) (b_Circuit_anyOutputLiteral_23 ⟨_, rfl, ?_, rfl⟩)) (fun y => absurd ((nI_ltI (by omega) (by omega)).mpr hi) y)
          rw [nI_clamp (by omega)]
      have eI : 32 * nI k + nI (i - bo k) = nI (32 * k + (i - bo k)) := by rw [nI_mul32, nI_add]
      refine ⟨(shK 64 S (S.1 121 (32 * k + (i - bo k))) >>> (nI f &&& 31)) &&& 1, cA (fun _ => b_Post_bitOf_38 (fun y => absurd ((nI_leI (by omega) (by omega)).mp (by rw [h24] at y; exact y)) zD) (fun _ => b_Post_bitOf_49 hg anyL (fun v S1 e => ?_))) (fun y => absurd y n0), e_Mo_sentBit (b_Mo_sentBit_0 (fun _ => b_Mo_sentBit_87 (fun _ => b_Mo_sentBit_170 ?_) (fun y => absurd (by rw [h68]; exact (nI_ltI (by omega) (by omega)).mpr (by omega)) y)) (fun y => absurd y n0))⟩
      · obtain ⟨rfl, rfl⟩ := e
        rw [e32]
        refine b_Post_bitOf_61 hg (w_sho hw.2 ?_) (fun v S2 e => ?_)
        · rcases hlit with z | ⟨a, ha, e⟩
          · exact Or.inl z
          · exact Or.inr ⟨a, by omega, e⟩
        · obtain ⟨rfl, rfl⟩ := e
          refine b_Post_bitOf_64 hg (w_from cf) (fun v S3 e => ?_)
          obtain ⟨rfl, rfl⟩ := e
          exact b_Post_bitOf_68 ⟨_, rfl, rfl, rfl⟩
      · have lp := sb_177 (l := l) (Gr := Gr) (n := n) (w := w) (d := d' + 1) (S := S) (i := i) (k := k) (x1 := nI f) (Q := fun v S' => ∃ x, v = some (.int x) ∧ x = (shK 64 S (S.1 121 (32 * k + (i - bo k))) >>> (nI f &&& 31)) &&& 1 ∧ S' = S) (no := no) (bo := bo) (by omega) hm hbn h120 q1 q2 q3 (b_Mo_sentBit_207 hg (by rw [eI]; exact vp_in_nI (by omega) (by omega)) (wm_sho (S := S) (by
          rw [eI, nI_clamp (by omega)]
          rcases hlit with z | ⟨a, ha, e⟩
          · exact Or.inl z
          · exact Or.inr ⟨a, by omega, e⟩)) (fun v S1 e => by
            obtain ⟨rfl, rfl⟩ := e
            refine b_Mo_sentBit_224 ⟨_, rfl, ?_, rfl⟩
            rw [eI, nI_clamp (by omega), hsh])) k 0 (by omega)
        rw [b0] at lp
        exact lp
end BIT
