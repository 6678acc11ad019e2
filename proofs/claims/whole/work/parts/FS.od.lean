/-! what a deal finds and leaves, in one store -/
/-- how long messages can be -/
def LNb (n Dm : Nat) (own av : Nat → Nat) (ob : Nat) : Prop := (∀ q, q < n → own q ≤ 8192) ∧ (∀ r, 1 ≤ r → r ≤ Dm → av r ≤ 40000) ∧ ob ≤ 14208
/-- messages and rounds alike -/
def iPo (n : Nat) (S : zS) : Prop := ∃ (Dm : Nat) (own av : Nat → Nat) (ob : Nat) (s : List (Nat × Nat × Nat) × (Nat → Nat × Nat × Nat)) (lg : Nat → List (Nat × Nat × Nat)), (Dm ≤ 2000 ∧ LNb n Dm own av ob) ∧ LNc n Dm own av ob S ∧ LNm n Dm own av ob S ∧ PIv n Dm s ∧ LGp n Dm s lg ∧ PAc n s S ∧ PAm n s S ∧ LGc n Dm own av ob lg S ∧ LGm n Dm own av ob lg S ∧ S.1 65 12 = nI (dnF Dm s n) ∧ S.1 65 11 = S.1 73 140
/-- shares, triples, fixed values alike -/
def iSh (S : zS) : Prop := ∃ (G wb iw : Nat) (vm : Nat → Nat), G ≤ 40000 ∧ wb ≤ 8192 ∧ iw ≤ 256 ∧ S.1 24 4 = nI G ∧ S.1 24 8 = nI wb ∧ S.1 17 6 = nI iw ∧ wb = Wb (iB S) iw ∧ (∀ k, k < wb + G → S.1 64 k = S.1 151 k) ∧ (∀ g, g < G → S.1 111 g = 1 → S.1 61 (aNb S g) = S.1 152 g ∧ S.1 62 (aNb S g) = S.1 153 g ∧ S.1 63 (aNb S g) = S.1 154 g) ∧ ∀ a, a < iw → vm a < 2 ^ iB S a ∧ S.1 22 a = nI (vm a) ∧ S.2 119 a = lN (vm a) ∧ ∀ j, j < iB S a → par (S.1 64 (Wb (iB S) a + j)) = nI (vm a / 2 ^ j % 2)
section DLT
variable {l : Launch} {Gr : zG} {n w d q f G wb iw c : Nat} {S S' S0 : zS} {s : Int32} {Qs : Nat → Int32} {Q : Option Value → zS → Prop}
theorem iW_Wb : ∀ m, iW S m = Wb (iB S) m
  | 0 => rfl
  | m + 1 => by
    show iW S m + iB S m = Wb (iB S) m + iB S m
    rw [iW_Wb m]
theorem Wb_w {bt : Nat → Nat} : ∀ m, (∀ a, a < m → bt a ≤ w) → Wb bt m ≤ m * w
  | 0, _ => by
    rw [Nat.zero_mul]
    exact Nat.le_refl _
  | m + 1, h => by
    have h1 := Wb_w m (fun a ha => h a (by omega))
    have h2 := h m (by omega)
    show Wb bt m + bt m ≤ _
    rw [Nat.succ_mul]
    omega
theorem cAn_b : ∀ m, (∀ j, j < m → S.1 111 j = 0 ∨ S.1 111 j = 1) → cAn S m = nI (aNb S m)
  | 0, _ => rfl
  | m + 1, h => by
    show cAn S m + S.1 111 m = nI (aNb S m + (if S.1 111 m = 1 then 1 else 0))
    rw [cAn_b m (fun j hj => h j (by omega))]
    rcases h m (by omega) with e | e
    · rw [e, if_neg (by decide)]
      exact Int32.add_zero _
    · rw [e, if_pos rfl]
      exact nI_add _ 1
theorem dl_f (hn : n ≤ 16) (hw : 1 ≤ w ∧ w ≤ 32) (h : iCk n w S) : ∃ G wb iw, DFx n w S G wb iw := by
  obtain ⟨g0, Dm0, iw, no, bo, ⟨g, wb, hg, hwb, h4, h66, h8, h65, h5, h67, h6, -, hr⟩, h9, ou, h145, ⟨k1, k2, k3, k4, k5, k6, k7⟩, hst, lv⟩ := h
  have hB : ∀ a, a < iw → iO S a < n ∧ iB S a ≤ w ∧ vmF S a < 2 ^ iB S a ∧ S.1 18 a = nI (iO S a) ∧ S.1 19 a = nI (iB S a) ∧ S.1 20 a = nI (Wb (iB S) a) ∧ S.1 115 a = nI (iO S a) ∧ S.1 116 a = nI (iB S a) ∧ S.1 117 a = nI (Wb (iB S) a) ∧ S.1 21 a = nI (vmF S a) ∧ S.2 118 a = lN (vmF S a) := fun a ha => by
    obtain ⟨o, bt, i1, i2, i3, i4, i5, i6, i7, i8, m, m1, m2, m3⟩ := k6 a ha
    have hbt : bt ≤ w := by omega
    have e1 : iB S a = bt := by unfold iB; rw [i4]; exact nI_clamp (by omega)
    have e2 : iO S a = o := by unfold iO; rw [i3]; exact nI_clamp (by omega)
    have m4 : m < 2 ^ 32 := pw_lt m1 (by omega)
    have e3 : vmF S a = m := by
      unfold vmF
      rw [m2]
      exact Nat.mod_eq_of_lt m4
    rw [e1, e2, e3, ← iW_Wb]
    exact ⟨i1, hbt, m1, i3, i4, i5, i6, i7, i8, m2, m3⟩
  have hWw := Wb_w (w := w) (bt := iB S) iw (fun a ha => (hB a ha).2.1)
  have hWb : Wb (iB S) iw ≤ 256 * w := Nat.le_trans hWw (Nat.mul_le_mul_right w k1)
  have ew : wb = Wb (iB S) iw := by
    rw [iW_Wb] at k5
    exact (nI_eq (by omega) (by omega)).mp (h65.symm.trans k5)
  have h01 : ∀ j, j < g → S.1 111 j = 0 ∨ S.1 111 j = 1 := fun j hj => (hr j hj).2.1
  refine ⟨g, wb, iw, hg, by omega, k1, ew, k2, k4, h4, h66, h8, h65, ?_, hB, fun k hk => ⟨(hr k hk).2.2.1, (hr k hk).2.2.2.1⟩, fun k hk => ?_⟩
  · rw [h5, h67]
    exact cAn_b g h01
  · obtain ⟨⟨e1, e2, e3, e4⟩, -⟩ := hr k hk
    have ga : gAn S k = true ↔ S.1 111 k = 1 := by
      unfold gAn
      exact decide_eq_true_iff
    rcases h01 k hk with z | z
    · have n1 : ¬ S.1 111 k = 1 := by rw [z]; decide
      refine ⟨e1, e2, ?_, ⟨fun _ y => n1 (ga.mp y), fun _ => z⟩, ga.symm⟩
      rw [e4, if_pos z, if_neg (fun y => n1 (ga.mp y))]
    · have n0 : ¬ S.1 111 k = 0 := by rw [z]; decide
      refine ⟨e1, e2, ?_, ⟨fun y => absurd y n0, fun y => absurd (ga.mpr z) y⟩, ga.symm⟩
      rw [e4, if_neg n0, if_pos (ga.mpr z)]
      exact cAn_b k (fun j hj => h01 j (by omega))
theorem iQ_le {y : Nat} : ∀ m, iQ S y m ≤ iW S m
  | 0 => Nat.le_refl _
  | m + 1 => by
    have h := iQ_le (y := y) m
    show iQ S y m + (if iO S m = y then iB S m else 0) ≤ iW S m + iB S m
    split <;> omega
theorem ln_f (hn : n ≤ 16) (hw : 1 ≤ w ∧ w ≤ 32) (h : iCk n w S) : ∃ (Dm : Nat) (own av : Nat → Nat) (ob : Nat), (Dm ≤ 2000 ∧ LNb n Dm own av ob) ∧ LNc n Dm own av ob S ∧ LNm n Dm own av ob S := by
  obtain ⟨G1, wb1, iw1, q1, q2, q3, q4, q5, -⟩ := dl_f hn hw h
  obtain ⟨g0, Dm, iw, no, bo, ⟨g, wb, hg, hwb, h4, h66, h8, h65, h5, h67, h6, -, hr⟩, h9, ⟨o11, o69, b0, o31, ot⟩, h145, ⟨k1, k2, k3, k4, k5, k6, k7⟩, hst, ⟨gl, ml, l1, l2, l3⟩⟩ := h
  have eiw : iw1 = iw := (nI_eq (by omega) (by omega)).mp (q5.symm.trans k2)
  have hB : LNb n Dm (fun p => iQ S p iw) (fun r => cL (gAn S) (gLv S) r g0) (bo no) := by
    refine ⟨fun q hq => ?_, fun r _ _ => ?_, ?_⟩
    · have a := iQ_le (S := S) (y := q) iw
      rw [iW_Wb, ← eiw, ← q4, eiw] at a
      show iQ S q iw ≤ 8192
      omega
    · have a := sL_s (an := gAn S) (lv := gLv S) (L := r) g0
      have b := sL_le (an := gAn S) (lv := gLv S) (L := r + 1) g0
      have c := gl.2.1
      show cL (gAn S) (gLv S) r g0 ≤ 40000
      omega
    · have a := (o31 no (Nat.le_refl _)).2
      have b : no * w ≤ 444 * 32 := Nat.mul_le_mul (by omega) hw.2
      omega
  have hD : Dm ≤ 2000 := ml.2.2.2.1
  have h68 : S.1 73 68 = nI Dm := ml.2.2.1
  refine ⟨Dm, fun p => iQ S p iw, fun r => cL (gAn S) (gLv S) r g0, bo no, ⟨hD, hB⟩, ⟨h6.trans h68, fun p hp => (k7 p hp).1, fun r q1 q2 => ?_, no, by omega, o11, (o31 no (Nat.le_refl _)).1⟩, h68, fun p hp => (k7 p hp).2, fun r q1 q2 => ?_, h145⟩
  · rw [l1 (r + 1) (by omega) (by omega), l1 r q1 (by omega), sL_s, Nat.add_comm]
    exact nI_subb _ _
  · rw [l2 (r + 1) (by omega) (by omega), l2 r q1 (by omega), sL_s, Nat.add_comm]
    exact nI_subb _ _
/-- dealt: both have the same -/
theorem dl_po (hn : 2 ≤ n ∧ n ≤ 16) (hw : 1 ≤ w ∧ w ≤ 32) (hC : iCk n w S) (hF : DFx n w S G wb iw) {T : zS} (hc : DRc n q Qs s S G wb iw T) (hm : DRm n q f Qs s S G wb iw S') (hs : ∀ c k, c < 73 → S'.1 c k = T.1 c k) : iPo n S' := by
  obtain ⟨c1, c2, c3, c4, c5, c6, c7, c8, c9, c10, c11, c12, c13, c14, c15, c16⟩ := hc
  obtain ⟨m1, m2, m3, m4, m5, m6, m7, m8, m9, m10, m11, m12, m13, m14⟩ := hm
  obtain ⟨Dm, own, av, ob, hD, ln1, ln2⟩ := ln_f hn.2 hw hC
  have z0 : ∀ p, p < n → (bgL n n 0, fun _ : Nat => ((0 : Nat), (0 : Nat), (0 : Nat))).2 p = (0, 0, 0) := fun _ _ => rfl
  have fc : ∀ c k, c < 73 → ¬ (c = 0 ∧ (k = 15 ∨ k = 16)) → ¬ c = 22 → ¬ (59 ≤ c ∧ c ≤ 64) → ¬ (c = 65 ∧ (10 ≤ k ∧ k ≤ 12)) → ¬ (66 ≤ c ∧ c ≤ 71) → S'.1 c k = S.1 c k := fun c k q0 q1 q2 q3 q4 q5 => by
    rw [hs c k q0]
    exact c15 c k q1 q2 q3 q4 q5
  obtain ⟨n6, n23, n30, no, hno, n11, n31⟩ := ln1
  obtain ⟨n68, n167, n155, n145⟩ := ln2
  have hdn : ∀ m, dnF Dm (bgL n n 0, fun _ : Nat => ((0 : Nat), (0 : Nat), (0 : Nat))) m = 0 := fun m => by
    induction m with
    | zero => rfl
    | succ m ih =>
      show dnF Dm _ m + (if (0 : Nat) = Dm + 2 then 1 else 0) = 0
      rw [ih, if_neg (by omega)]
  refine ⟨Dm, own, av, ob, (bgL n n 0, fun _ => (0, 0, 0)), fun _ => [], hD, ⟨?_, fun p hp => ?_, fun r q1 q2 => ?_, no, hno, ?_, ?_⟩, ⟨?_, fun p hp => ?_, fun r q1 q2 => ?_, ?_⟩, PIv_0 Dm, fun p hp => ⟨by show 0 = (n - 1) * 0 + 0 + 0; rw [Nat.mul_zero], Nat.zero_le _, fun m hm => absurd hm List.not_mem_nil⟩, ⟨⟨?_, fun k m hk => ?_⟩, fun p hp => ?_⟩, ⟨m10, fun p hp => ?_⟩, fun p hp => ?_, fun p hp => ?_, ?_, ?_⟩
  · rw [fc 24 6 (by omega) (by omega) (by omega) (by omega) (by omega) (by omega)]; exact n6
  · rw [fc 23 p (by omega) (by omega) (by omega) (by omega) (by omega) (by omega)]; exact n23 p hp
  · rw [fc 30 _ (by omega) (by omega) (by omega) (by omega) (by omega) (by omega), fc 30 _ (by omega) (by omega) (by omega) (by omega) (by omega) (by omega)]; exact n30 r q1 q2
  · rw [fc 24 11 (by omega) (by omega) (by omega) (by omega) (by omega) (by omega)]; exact n11
  · rw [fc 31 no (by omega) (by omega) (by omega) (by omega) (by omega) (by omega)]; exact n31
  · rw [m13 73 68 (by omega) (by omega) (by omega) (by omega)]; exact n68
  · rw [m13 167 p (by omega) (by omega) (by omega) (by omega)]; exact n167 p hp
  · rw [m13 155 _ (by omega) (by omega) (by omega) (by omega), m13 155 _ (by omega) (by omega) (by omega) (by omega)]; exact n155 r q1 q2
  · rw [m13 73 145 (by omega) (by omega) (by omega) (by omega)]; exact n145
  · rw [hs 65 10 (by omega)]; exact c11.1
  · rw [hs 71 k (by omega)]; exact c11.2 k m hk
  · obtain ⟨p1, p2, p3, p4, p5⟩ := c12 p hp
    exact ⟨by rw [hs 66 p (by omega)]; exact p1, by rw [hs 69 p (by omega)]; exact p4, by rw [hs 70 p (by omega)]; exact p5⟩
  · obtain ⟨p1, p2, p3, p4, p5⟩ := m11 p hp
    exact ⟨p1, p2, p3⟩
  · obtain ⟨p1, p2, p3, p4, p5⟩ := c12 p hp
    exact ⟨by rw [hs 67 p (by omega)]; exact p2, by rw [hs 68 p (by omega)]; exact p3, fun j m hj => absurd hj (by simp)⟩
  · obtain ⟨p1, p2, p3, p4, p5⟩ := m11 p hp
    exact ⟨p4, p5, fun j m hj => absurd hj (by simp)⟩
  · rw [hs 65 12 (by omega), hdn n]; exact c14
  · rw [hs 65 11 (by omega), c13, m12]
theorem dl_sh (hn : 2 ≤ n ∧ n ≤ 16) (hw : w ≤ 32) (hQ : ∀ k, k < q → Qs k = 0 ∨ Qs k = 1) (hF : DFx n w S G wb iw) {T : zS} (hc : DRc n q Qs s S G wb iw T) (hm : DRm n q f Qs s S G wb iw S') (hs : ∀ c k, c < 73 → S'.1 c k = T.1 c k) : iSh S' := by
  obtain ⟨c1, c2, c3, c4, c5, c6, c7, c8, c9, c10, c11, c12, c13, c14, c15, c16⟩ := hc
  obtain ⟨m1, m2, m3, m4, m5, m6, m7, m8, m9, m10, m11, m12, m13, m14⟩ := hm
  obtain ⟨f1, f2, f3, f4, f5, f6, f7, f8, f9, f10, f11, f12, f13, f14⟩ := hF
  have fc : ∀ c k, c < 73 → ¬ (c = 0 ∧ (k = 15 ∨ k = 16)) → ¬ c = 22 → ¬ (59 ≤ c ∧ c ≤ 64) → ¬ (c = 65 ∧ (10 ≤ k ∧ k ≤ 12)) → ¬ (66 ≤ c ∧ c ≤ 71) → S'.1 c k = S.1 c k := fun c k q0 q1 q2 q3 q4 q5 => by
    rw [hs c k q0]
    exact c15 c k q1 q2 q3 q4 q5
  have eB : iB S' = iB S := funext fun a => by
    unfold iB
    rw [fc 19 a (by omega) (by omega) (by omega) (by omega) (by omega) (by omega)]
  have eN : ∀ m, aNb S' m = aNb S m := aNb_cg (fun g => m13 111 g (by omega) (by omega) (by omega) (by omega))
  have inp : ∀ k, k < wb → T.1 64 k = S'.1 151 k := fun k hk => by
    obtain ⟨a, j, a1, a2, a3⟩ := Wb_ex (bt := iB S) iw k (by rw [← f4]; exact hk)
    rw [a3, c8 a j a1 a2, m7 a j a1 a2]
  have all := gFx_eq (S := T) (T := S') (c := 64) (c' := 151) f13 f1 (by omega) inp c9 m8 (wb + G) (Nat.le_refl _)
  refine ⟨G, wb, iw, vmF S, f1, by omega, f3, ?_, ?_, ?_, by rw [eB]; exact f4, fun k hk => ?_, fun g hg ha => ?_, fun a ha => ?_⟩
  · rw [fc 24 4 (by omega) (by omega) (by omega) (by omega) (by omega) (by omega)]; exact f7
  · rw [fc 24 8 (by omega) (by omega) (by omega) (by omega) (by omega) (by omega)]; exact f9
  · rw [fc 17 6 (by omega) (by omega) (by omega) (by omega) (by omega) (by omega)]; exact f5
  · rw [hs 64 k (by omega)]
    exact all k hk
  · have ha' : S.1 111 g = 1 := by rw [← m13 111 g (by omega) (by omega) (by omega) (by omega)]; exact ha
    obtain ⟨t1, t2, t3⟩ := m9 g hg ha'
    obtain ⟨u1, u2, u3⟩ := c10 _ (aNb_lt hg ha')
    rw [eN g, hs 61 _ (by omega), hs 62 _ (by omega), hs 63 _ (by omega), u1, u2, u3, t1, t2, t3]
    exact ⟨rfl, rfl, rfl⟩
  · obtain ⟨i1, i2, i3, i4, i5, i6, i7, i8, i9, i10, i11⟩ := f12 a ha
    rw [eB]
    refine ⟨i3, by rw [hs 22 a (by omega), c3 a ha]; exact i10, by rw [m3 a ha]; exact i11, fun j hj => ?_⟩
    rw [hs 64 _ (by omega), c8 a j ha hj]
    unfold shI
    obtain ⟨y, y1, y2, y3⟩ := dBut_v (q := q) (Qs := Qs) (s := s) (le := fun p => decide (p = iO S a)) (o := iO S a) hQ (decide_eq_true rfl) n 0 (bNj q Qs s n (iO S a) (aNj q Qs s n (iO S) (iB S) 0 a) j) 0 (by omega) (by decide) (by rw [Nat.zero_div])
    have y1' : (dBut q Qs s (fun p => decide (p = iO S a)) n 0 (bNj q Qs s n (iO S a) (aNj q Qs s n (iO S) (iB S) 0 a) j) 0).1 = nI y := y1
    rw [y1']
    exact par_shX (Nat.lt_of_lt_of_le y2 (Nat.pow_le_pow_right (n := 2) (by omega) (show 0 + n ≤ 16 by omega))) (by omega) y3 (by omega)
/-- deal() on both, with a circuit -/
theorem o_deal (hg : ip_gk (lg_tbl, vwCl, Gr)) (hn : 2 ≤ n ∧ n ≤ 16) (hw : 1 ≤ w ∧ w ≤ 32) (h14 : S.1 0 14 = 1) (h83 : S.1 73 83 = 1) (hC : iCk n w S) (hD : iDR S) : oTw l Gr n w (d + 4) M_H_deal M_Mo_deal [] S (fun X => iDR X ∧ iPo n X ∧ iSh X ∧ X.1 0 15 = 1 ∧ X.1 0 16 = 0 ∧ X.1 73 124 = 1 ∧ X.1 73 119 = 0 ∧ (∀ c k, ¬ (c = 0 ∧ (k = 15 ∨ k = 16)) → ¬ c = 22 → ¬ (59 ≤ c ∧ c ≤ 64) → ¬ (c = 65 ∧ (10 ≤ k ∧ k ≤ 12)) → ¬ (66 ≤ c ∧ c ≤ 71) → ¬ (c = 73 ∧ ((119 ≤ k ∧ k ≤ 124) ∨ k = 131 ∨ k = 139 ∨ k = 140)) → ¬ (151 ≤ c ∧ c ≤ 154) → ¬ (157 ≤ c ∧ c ≤ 166) → X.1 c k = S.1 c k) ∧ ∀ c k, ¬ c = 119 → X.2 c k = S.2 c k) := by
  obtain ⟨G, wb, iw, hF⟩ := dl_f hn.2 hw hC
  obtain ⟨q, f, hq, hf, a1, a0, a2, a3, a4, a5⟩ := hD
  have hQ : ∀ k, k < q → S.1 60 k = 0 ∨ S.1 60 k = 1 := fun k hk => (a4 k hk).2
  have dc : DCq q (S.1 60) (S.1 59 4) 0 S := ⟨hq, a1, by rw [a0, Nat.zero_min]; rfl, rfl, fun _ _ => rfl⟩
  have dm : DMq q f (S.1 60) (S.1 59 4) 0 S := ⟨hq, hf, a2, by rw [a3, Nat.zero_min, Nat.add_zero, Nat.mod_eq_of_lt hf], a5.symm, fun k hk => (a4 k hk).1.symm⟩
  obtain ⟨_, S1, ⟨v, rfl, rfl, r1⟩, e1⟩ := w_deal (l := l) (Gr := Gr) (d := d) hg (by omega) hw.2 (by rw [h14]; decide) hF dc hQ
  have r1' := r1
  obtain ⟨c1, c2, c3, c4, c5, c6, c7, c8, c9, c10, c11, c12, c13, c14, c15, c16⟩ := r1'
  obtain ⟨_, S2, ⟨v, rfl, rfl, r2, r3⟩, e2⟩ := wm_deal (l := l) (Gr := Gr) (d := d + 1) (T := S1) (q := q) (f := f) (Qs := S.1 60) (s := S.1 59 4) hg (by omega) hw.2 (by rw [h83]; decide) hF (fun c k z => c15 c k (by omega) (by omega) (by omega) (by omega) (by omega)) c16 ⟨_, (nI_tn (S.1 73 131)).symm⟩ dm
  refine ⟨1, S1, e1, S2, e2, ?_⟩
  have hpo := dl_po hn hw hC hF r1 r2 r3
  have hsh := dl_sh hn hw.2 hQ hF r1 r2 r3
  obtain ⟨m1, m2, m3, m4, m5, m6, m7, m8, m9, m10, m11, m12, m13, m14⟩ := r2
  have hu : min (dI2 q (S.1 60) (S.1 59 4) n S G iw) q ≤ q := Nat.min_le_right _ _
  refine ⟨⟨q - min (dI2 q (S.1 60) (S.1 59 4) n S G iw) q, (f + min (dI2 q (S.1 60) (S.1 59 4) n S G iw) q) % 2000, by omega, Nat.mod_lt _ (by omega), by rw [r3 59 2 (by omega)]; exact c4, by rw [r3 59 3 (by omega)]; exact c5, ?_, m5, fun k hk => ?_, by rw [r3 59 4 (by omega), c6, m6]⟩, hpo, hsh, by rw [r3 0 15 (by omega)]; exact c1, by rw [r3 0 16 (by omega)]; exact c2, m1, m2, fun c k q1 q2 q3 q4 q5 q6 q7 q8 => ?_, fun c k q1 => m14 c k q1⟩
  · rw [m4]
    congr 1
    omega
  · rw [r3 60 k (by omega), c7 k hk, m13 150 _ (by omega) (by omega) (by omega) (by omega)]
    refine ⟨?_, hQ _ (by omega)⟩
    rw [(a4 _ (show min (dI2 q (S.1 60) (S.1 59 4) n S G iw) q + k < q by omega)).1]
    have e : (f + (min (dI2 q (S.1 60) (S.1 59 4) n S G iw) q + k)) % 2000 = ((f + min (dI2 q (S.1 60) (S.1 59 4) n S G iw) q) % 2000 + k) % 2000 := by
      generalize min (dI2 q (S.1 60) (S.1 59 4) n S G iw) q = u
      omega
    rw [e]
  · by_cases z : c < 73
    · rw [r3 c k z]
      exact c15 c k q1 q2 q3 q4 q5
    · exact m13 c k z q6 q7 q8
end DLT
