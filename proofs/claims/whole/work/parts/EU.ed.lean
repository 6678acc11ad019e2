/-! BUILD on both sides: if, the end in step -/
section YIF
variable {l : Launch} {Cx : Nat → Prop} {Gr : zG} {n w : Nat} {d : Nat} {Av : Nat → Nat → Prop} {S T A A' A1 A2 B B' B0 B1 B2 : zS} {e : Int32} {V L : Nat → Int32} {i hc st r i1 i2 i3 j j1 j2 j3 N M vw nv u sd no lo hi g lo' hi' p vwF : Nat} {vb vq vt bo : Nat → Nat}
theorem if_ck (hg : ip_gk (lg_tbl, vwCl, Gr)) (ho : ip_old (lg_tbl, vwCl, Gr)) (hw1 : 1 ≤ w) (hw : w ≤ 32) (cx : CTX S T N M) (hk : CCo S A ∧ A.1 3 5 = 0 ∧ A.1 24 7 = 0 ∧ A.1 45 8 = nI ((hc + 1 + g) * w) ∧ A.1 45 16 = nI i3 ∧ A.1 45 18 = nI st ∧ A.1 45 13 = nI 0 ∧ A.1 45 12 = nI 0) (hC : ∀ k, k < 256 * w → CNl (A.1 58 k)) (hG : GK A) (hlg : lo + g ≤ 256) (u4 : S.1 4 i3 = 16) (u5 : S.1 5 i3 = nI i1) (u6 : S.1 6 i3 = nI p) (v5 : S.1 5 i1 = nI lo) (v7 : S.1 7 i1 = nI g) (hii : i1 < i3) (hi' : i3 < N) (hhc : hc + 1 + g + 1 ≤ 9682) : ∃ A2, CGo l Gr n w d 1 A (kEnd A2) ∧ KEc ((dmxP (A.1 57 (hc * w)) (ifV A ((hc + 1) * w) (lo * w) (g * w)) (A.1 58) (256 * w) 0 (A.1 58)).1 A).2 A2 ∧ (∀ c k, ¬ (24 ≤ c ∧ c ≤ 28 ∧ ¬ (c = 24 ∧ (k = 8 ∨ k = 11))) → ¬ (c = 45 ∧ (k = 8 ∨ k = 16 ∨ k = 17)) → ¬ c = 58 → A2.1 c k = A.1 c k) ∧ (∀ c k, A2.2 c k = A.2 c k) ∧ A2.1 45 8 = nI (hc * w) ∧ A2.1 45 16 = nI (i3 + 1) ∧ A2.1 45 17 = nI p ∧ ∀ i, A2.1 58 i = ((dmxP (A.1 57 (hc * w)) (ifV A ((hc + 1) * w) (lo * w) (g * w)) (A.1 58) (256 * w) 0 (A.1 58)).1 A).1 i := by
  have hN := cx.2.1
  have m1 : (hc + 1 + g) * w = (hc + 1) * w + g * w := Nat.add_mul _ _ _
  have m2 : (hc + 1) * w = hc * w + w := Nat.succ_mul _ _
  have m3 : (hc + 1 + g) * w ≤ 9682 * w := Nat.mul_le_mul_right _ (by omega)
  have cA : ∀ c u, (4 ≤ c ∧ c ≤ 7) ∨ (11 ≤ c ∧ c ≤ 15) → (zi A 45 16 (nI (i3 + 1))).1 c u = S.1 c u := fun c u h => by rw [zi_c (by omega)]; exact hk.1.2 c u (by omega)
  have f58 : (zi A 45 16 (nI (i3 + 1))).1 58 = A.1 58 := funext fun k => zi_c (by decide)
  have fV : ifV (zi A 45 16 (nI (i3 + 1))) ((hc + 1) * w) (lo * w) (g * w) = ifV A ((hc + 1) * w) (lo * w) (g * w) := funext fun k => by
    unfold ifV
    rw [f58, zi_c (by decide)]
  have hout : ∀ k, k < 256 * w → (k < lo * w ∨ lo * w + g * w ≤ k) → ifV A ((hc + 1) * w) (lo * w) (g * w) k = A.1 58 k := fun k _ q => by
    unfold ifV
    rw [if_neg (by omega)]
  have ct := w_st16 (l := l) (Gr := Gr) (n := n) (d := d + 4) (A := zi A 45 16 (nI (i3 + 1))) (S := A) (e := A.1 57 (hc * w)) (j := i3) (i1 := i1) (lo := lo) (g := g) (b := hc * w) (p := p) hg hw hw1 (by omega) (by omega) ((cA 5 i3 (by omega)).trans u5) ((cA 6 i3 (by omega)).trans u6) ((cA 5 i1 (by omega)).trans v5) ((cA 7 i1 (by omega)).trans v7) hlg (by rw [zi_k (by decide), hk.2.2.2.1, m1, m2]) (by omega) (fun k q => by rw [f58]; exact hC k q) (KEc_zi KEc_rfl (by omega)) hG (zi_c (by decide))
  obtain ⟨A2, ⟨e1, e2, e3, e4, e5⟩, run⟩ := zMv_det ct
  rw [← m2, fV, f58, ← dmx_all (R := A.1 58) hlg hout] at e1
  rw [← m2, fV, f58, ← dmx_all (R := A.1 58) hlg hout] at e5
  refine ⟨A2, kg_1 (z := 16) (e := 1) hg ho hw (hk.1.1.trans cx.1) hi' hN hk.2.1 hk.2.2.2.2.1 ((hk.1.2 4 i3 (by omega)).trans u4) (by omega) hk.2.2.2.1 rfl (by omega) (by omega) (kg_S (l := l) (n := n) (d := d) hg (by omega) run), e1, fun c k q1 q2 q3 => ?_, fun c k => e2.2 c k, e3, ?_, e4, e5⟩
  · rw [e2.1 c k (by omega) (by omega) (by omega), zi_get, if_neg (by omega)]
  · rw [e2.1 45 16 (by omega) (by omega) (by omega)]
    exact zi_v
theorem if_close (hg : ip_gk (lg_tbl, vwCl, Gr)) (ho : ip_old (lg_tbl, vwCl, Gr)) (hw1 : 1 ≤ w) (hw : w ≤ 32) (cx : CTX S T N M) (hvk : VLk w nv vb vq vt Av S) (h0 : IFz w Av S T i3 hc lo g vw nv vb vq vt u sd no bo p st A B0) (hlg : lo + g ≤ 256) (hlo : lo' ≤ lo) (hhi : 0 < g → lo + g ≤ hi') (hCx : CXo w Av S Cx) (hu : u < 40) (hsd : sd < 80) (u4 : S.1 4 i3 = 16) (u5 : S.1 5 i3 = nI i1) (u6 : S.1 6 i3 = nI p) (v5 : S.1 5 i1 = nI lo) (v7 : S.1 7 i1 = nI g) (t1 : T.1 78 j3 = 37) (t2 : T.1 78 (j3 + 1) = 21) (hii : i1 < i3) (hi : i3 < N) (hj : j3 + 1 < M) (hhc : hc + 1 + g + 1 ≤ 9682) : TRz l Gr n w d (IFz w Av S T i3 hc lo g vw nv vb vq vt u sd no bo p) (fun st A B => YB w Av S T (i3 + 1) hc st A B ∧ YE w Av S vw nv vb vq vt u sd no bo A B) (SF w Cx (K2 S Av) hc sd u nv vwF lo' hi') (-1) j3 (j3 + 2) st A := by
  obtain ⟨⟨hk0, -, hRL0, hst, -⟩, -, -, hCN0, -, -, -, hG0⟩ := h0
  have hN := cx.2.1
  have hM := cx.2.2.2
  obtain ⟨A2, gC, K2', f2, l2, c8, c16, c17, h58⟩ := if_ck (l := l) (Gr := Gr) (n := n) (d := d) hg ho hw1 hw cx hk0 hCN0 hRL0.1 hlg u4 u5 u6 v5 v7 hii hi hhc
  obtain ⟨e, he⟩ : ∃ e, e = A.1 57 (hc * w) := ⟨_, rfl⟩
  obtain ⟨V, hV⟩ : ∃ V, V = ifV A ((hc + 1) * w) (lo * w) (g * w) := ⟨_, rfl⟩
  obtain ⟨L, hL⟩ : ∃ L, L = A.1 58 := ⟨_, rfl⟩
  have m1 : lo * w + g * w ≤ 256 * w := by rw [← Nat.add_mul]; exact Nat.mul_le_mul_right _ hlg
  have ml : lo' * w ≤ lo * w := Nat.mul_le_mul_right _ hlo
  have mh : 0 < g → lo * w + g * w ≤ hi' * w := fun q => by rw [← Nat.add_mul]; exact Nat.mul_le_mul_right _ (hhi q)
  have hout : ∀ k, (k < lo * w ∨ lo * w + g * w ≤ k) → V k = L k := fun k q => by
    rw [hV, hL]
    unfold ifV
    rw [if_neg (by omega)]
  have hGp : ∀ k, CXn w Av S k → V k = L k := fun k q => by rw [hV, hL]; exact hG0 k q
  have hvis : ∀ k, ¬ V k = L k → ∃ t W x, t < nv ∧ vb t ≤ W ∧ W < vb t + vq t ∧ x < vt t ∧ W * w + x = k := fun k q => by
    have e1 : k / w * w + k % w = k := by rw [Nat.mul_comm]; exact Nat.div_add_mod k w
    apply Classical.byContradiction
    intro y
    refine q (hGp k ?_)
    rw [← e1]
    exact gap_n hw1 hvk (Nat.mod_lt _ (by omega)) (fun t ht z => y ⟨t, k / w, k % w, ht, z.1, z.2.1, z.2.2, e1⟩)
  obtain ⟨R0, hR0⟩ : ∃ R0 : Nat → Int32, R0 = fun k => if V k = L k then -2 else L k := ⟨_, rfl⟩
  have hRR : ∀ i, ¬ V i = L i → L i = R0 i := fun i q => by rw [hR0]; exact (if_neg q).symm
  have c5 : A2.1 3 5 = 0 := (f2 3 5 (by omega) (by omega) (by omega)).trans hk0.2.1
  have c18 : A2.1 45 18 = nI st := (f2 45 18 (by omega) (by omega) (by omega)).trans hk0.2.2.2.2.2.1
  have kb : KBc A A2 := ⟨fun c k q1 q2 q3 => f2 c k (by omega) (by omega) (by omega), fun c k _ => l2 c k⟩
  rw [← he, ← hV, ← hL] at K2' h58
  have rk := dmx_Rk (e := e) (V := V) (L := L) (256 * w) 0 L R0 A hRR
  rw [rk.1] at K2'
  have same : ∀ k, V k = L k → A2.1 58 k = A.1 58 k := fun k q => by rw [h58 k, (rk.2 k).2 q, hL]
  have com : ∀ B, IFz w Av S T i3 hc lo g vw nv vb vq vt u sd no bo p st A B → ∃ B1, MGo l Gr n w d B j3 B1 (j3 + 1) ∧ IFr w u nv vb vq vt e V L B B1 ∧ VM B B1 ∧ RL A2 B1 ∧ mPla B1 = nI p ∧ ∀ t W x, t < nv → vb t ≤ W → W < vb t + vq t → x < vt t → (A2.1 24 7 = 0 → A2.1 58 (W * w + x) = B1.1 132 (32 * W + x)) ∧ VC B1 (B1.1 132 (32 * W + x)) := fun B hB => by
    obtain ⟨⟨hk, hm, hRL, -, -⟩, ⟨b94, b101, b131⟩, ⟨y4, y5, y6, y7⟩, hCN, -, ⟨b136, ve, b137⟩, hVL, -⟩ := hB
    rw [← hV, ← hL] at hVL
    have mT : ∀ c k, (78 ≤ c ∧ c ≤ 81) ∨ c = 89 ∨ (102 ≤ c ∧ c ≤ 107) ∨ c = 117 → B.1 c k = T.1 c k := hm.1.2.1
    have ve' : VC B e := by rw [he, b136]; exact ve
    have pB : mPla B = nI p := by
      unfold mPla
      rw [b94, if_neg (nI_ne0 (by omega) (by omega)), nI_pred, nI_clamp (by omega)]
      exact b131
    have hWF : mWF VFs (dmxP e V L (256 * w) 0 R0) B := W_dmx (256 * w) 0 R0 B ve' (fun i _ _ q => by
      obtain ⟨t, W, x, t1, t2, t3, t4, t5⟩ := hvis i q
      have := hVL t W x t1 t2 t3 t4
      rw [t5] at this
      exact this.2.2) (fun i => by
      rw [hR0]
      show VC B (if V i = L i then -2 else L i)
      split
      · exact VC_c2
      · rename_i q
        obtain ⟨t, W, x, t1, t2, t3, t4, t5⟩ := hvis i q
        have := hVL t W x t1 t2 t3 t4
        rw [t5] at this
        exact this.2.2.2)
    have rr := r_run2 hRL (BU_dmx (e := e) (V := V) (L := L) (256 * w) 0 R0) (fun _ => rfl) hWF
    have rm := dmx_Rm (e := e) (V := V) (L := L) (256 * w) 0 L R0 B hRR
    obtain ⟨x1, B1, ⟨ex, I⟩, r1⟩ := zMi_det (ms_37 (l := l) (n := n) (w := w) (d := d + 4) (B := B) (e := e) (V := V) (L := L) (u := u) (nv := nv) (j := j3) (vb := vb) (vq := vq) (vt := vt) hg hw hw1 (by omega) hu (by omega) ((mT 78 j3 (by omega)).trans t1) b101 b137 (by rw [he, b136]) (fun t ht => ⟨(y6 t ht).1, (y6 t ht).2.1, (y6 t ht).2.2.1, by have := (y6 t ht).2.2.2.2.1; omega, by have := (y6 t ht).2.2.2.2.2; omega⟩) y7 hRL.2.1 ve' (fun t W x q1 q2 q3 q4 => ⟨(hVL t W x q1 q2 q3 q4).1, (hVL t W x q1 q2 q3 q4).2.1, (hVL t W x q1 q2 q3 q4).2.2.2.2, (hVL t W x q1 q2 q3 q4).2.2⟩) (fun W x q1 q2 q3 => hGp _ (gap_n hw1 hvk q2 q3)))
    subst ex
    have n1 : MGo l Gr n w d B j3 B1 (j3 + 1) := mg_s (z := 37) hg (by omega) hM (hm.1.1.trans cx.2.2.1) (by
      rcases hRL.2.2 with y | y
      · exact y.2.1
      · exact absurd hk.2.2.1 y.1) ((mT 78 j3 (by omega)).trans t1) (by omega) (by omega) r1
    have M1 : MEc ((dmxP e V L (256 * w) 0 R0).2 B).2 B1 := by rw [← rm.1]; exact I.1
    have vm : VM B B1 := fun x hx => VC_ME M1 (VC_m rr.2.2.2.2.1 hx)
    refine ⟨B1, n1, I, vm, RL_E rr.1 K2' M1, ((MEc_pla M1).trans (m_run hRL.2.1 hWF).2.2).trans pB, fun t W x q1 q2 q3 q4 => ?_⟩
    have z := hVL t W x q1 q2 q3 q4
    rw [I.2.2.2.2.2.1 t W x q1 q2 q3 q4]
    by_cases y : V (W * w + x) = L (W * w + x)
    · rw [(rm.2 _).2 y]
      exact ⟨fun _ => by rw [same _ y, hL], vm _ z.2.2.2⟩
    · rw [(rm.2 _).1 y, h58, (rk.2 _).1 y]
      exact ⟨fun al => by rw [rr.2.1 (by rw [← K2'.1 7 (by omega) (by omega)]; exact al)], VC_ME M1 (rr.2.2.1 _)⟩
  by_cases al : A2.1 24 7 = 0
  rotate_left
  · have ke := kEnd_b (Or.inl al) c5
    refine ⟨1, kEnd A2, gC, KBc_tr kb KBc_E, Or.inr ⟨by omega, fun B hB => ?_⟩⟩
    obtain ⟨B1, n1, I, vm, rl, pl, -⟩ := com B hB
    have dead := rl.2.2.resolve_left (fun y => al y.1)
    refine ⟨B1, _, n1, ⟨fun c k q1 q2 q3 => I.2.1 c k (by omega) (by omega) (by omega) (by omega), fun c k _ => I.2.2.1 c k⟩, by rw [ke.1]; decide, by rw [ke.1]; exact dead.2.1, ?_⟩
    rw [ke.2, dead.2.2, pl, c17]
  rw [kEnd_g (st := st) al c18 hst] at gC
  refine ⟨1, A2, gC, kb, Or.inl ⟨st, Nat.le_refl _, by omega, fun B hB => ?_⟩⟩
  obtain ⟨B1, n1, I, vm1, rl, pl, hval⟩ := com B hB
  obtain ⟨⟨hk, hm, hRL, -, hE2⟩, ⟨b94, b101, b131⟩, ⟨y4, y5, y6, y7⟩, hCN, ⟨o1, o2, o3, o4, o5⟩, -, -, -⟩ := hB
  have mT : ∀ c k, (78 ≤ c ∧ c ≤ 81) ∨ c = 89 ∨ (102 ≤ c ∧ c ≤ 107) ∨ c = 117 → B.1 c k = T.1 c k := hm.1.2.1
  have b7 : B1.1 73 7 = 0 := by
    rcases rl.2.2 with y | y
    · exact y.2.1
    · exact absurd al y.1
  have gb : ∀ c k, ¬ (c = 73 ∧ (k = 7 ∨ k = 8 ∨ k = 66 ∨ k = 67 ∨ k = 68 ∨ k = 97 ∨ k = 101)) → ¬ (111 ≤ c ∧ c ≤ 114) → ¬ c = 132 → ¬ (c = 140 ∧ 8192 * u ≤ k ∧ k < 8192 * u + 8192) → B1.1 c k = B.1 c k := I.2.1
  have g94 : B1.1 73 94 = nI (sd + 1) := (gb 73 94 (by omega) (by omega) (by omega) (by omega)).trans b94
  have b78 : B1.1 78 (j3 + 1) = nI 21 := ((gb 78 _ (by omega) (by omega) (by omega) (by omega)).trans (mT 78 _ (by omega))).trans t2
  have n2 : MGo l Gr n w d B1 (j3 + 1) (zi B1 73 94 (nI sd)) (j3 + 2) := mg_s (z := 21) hg hj hM (((gb 73 13 (by omega) (by omega) (by omega) (by omega)).trans hm.1.1).trans cx.2.2.1) b7 b78 (by omega) (by omega) (ms_21 (d := d + 5) (by omega) b78 g94)
  have g2 : ∀ c k, ¬ (c = 73 ∧ (k = 7 ∨ k = 8 ∨ k = 66 ∨ k = 67 ∨ k = 68 ∨ k = 94 ∨ k = 97 ∨ k = 101)) → ¬ (111 ≤ c ∧ c ≤ 114) → ¬ c = 132 → ¬ (c = 140 ∧ 8192 * u ≤ k ∧ k < 8192 * u + 8192) → (zi B1 73 94 (nI sd)).1 c k = B.1 c k := fun c k q1 q2 q3 q4 => by rw [zi_get, if_neg (by omega)]; exact gb c k (by omega) q2 q3 q4
  have gl : ∀ c k, (zi B1 73 94 (nI sd)).2 c k = B.2 c k := fun c k => I.2.2.1 c k
  have El : MEl B1 (zi B1 73 94 (nI sd)) := ⟨fun k q => zi_k (by omega), fun c k q => zi_c (by omega)⟩
  have vm : VM B (zi B1 73 94 (nI sd)) := VM_tr vm1 (fun x hx => VC_El El hx)
  have km : KBm B (zi B1 73 94 (nI sd)) := ⟨fun c k q1 q2 q3 => g2 c k (by omega) (by omega) (by omega) (by omega), fun c k _ => gl c k⟩
  have hv : ∀ t W x, t < nv → vb t ≤ W → W < vb t + vq t → x < vt t → A2.1 58 (W * w + x) = (zi B1 73 94 (nI sd)).1 132 (32 * W + x) ∧ VC (zi B1 73 94 (nI sd)) ((zi B1 73 94 (nI sd)).1 132 (32 * W + x)) := fun t W x q1 q2 q3 q4 => by
    rw [zi_c (by decide)]
    exact ⟨(hval t W x q1 q2 q3 q4).1 al, VC_El El (hval t W x q1 q2 q3 q4).2⟩
  have fr58 : ∀ k, (k < lo' * w ∨ hi' * w ≤ k ∨ Cx k) → A2.1 58 k = A.1 58 k := fun k q => by
    refine same k ?_
    rcases q with q | q | q
    · exact hout k (Or.inl (by omega))
    · by_cases y : 0 < g
      · have := mh y
        exact hout k (Or.inr (by omega))
      · have g0 : g = 0 := by omega
        rw [g0, Nat.zero_mul] at hout
        exact hout k (by omega)
    · exact hGp k (CXo_n hCx q)
  refine ⟨_, MGo_tr n1 n2, ⟨⟨⟨CCo_K hk.1 kb, c5, al, c8, c16, c18, (f2 45 13 (by omega) (by omega) (by omega)).trans hk.2.2.2.2.2.2.1, (f2 45 12 (by omega) (by omega) (by omega)).trans hk.2.2.2.2.2.2.2⟩, ⟨MCo_K hm.1 km, (g2 73 85 (by omega) (by omega) (by omega) (by omega)).trans hm.2.1, (g2 73 70 (by omega) (by omega) (by omega) (by omega)).trans hm.2.2.1, (g2 73 110 (by omega) (by omega) (by omega) (by omega)).trans hm.2.2.2⟩, RL_El rl al KEc_rfl El ⟨sd, by omega, zi_v⟩, hst, EN2_E (EN2_k hE2 (fun k => f2 20 k (by omega) (by omega) (by omega)) (fun k => l2 48 k) (fun k => g2 117 k (by omega) (by omega) (by omega) (by omega)) (fun k => gl 141 k) vm) hvk hv⟩, zi_v, by rw [zi_k (by decide)]; exact I.2.2.2.2.1, ⟨by rw [zi_k (by decide)]; exact I.2.2.2.1, y4, y5, fun t ht => by rw [g2 133 t (by omega) (by omega) (by omega) (by omega), g2 134 t (by omega) (by omega) (by omega) (by omega), g2 135 t (by omega) (by omega) (by omega) (by omega)]; exact y6 t ht, y7⟩, hvk, fun k hk => ?_, (f2 24 11 (by omega) (by omega) (by omega)).trans o1, (g2 73 69 (by omega) (by omega) (by omega) (by omega)).trans o2, o3, fun t ht => by rw [f2 31 t (by omega) (by omega) (by omega)]; exact o4 t ht, fun t ht => ?_⟩, ?_⟩
  · by_cases y : V k = L k
    · rw [same k y]
      exact hCN k hk
    · obtain ⟨t, W, x, t1, t2, t3, t4, t5⟩ := hvis k y
      have := hv t W x t1 t2 t3 t4
      rw [t5] at this
      rw [this.1]
      exact this.2.2
  · obtain ⟨m, q1, q2, q3, q4⟩ := o5 t ht
    refine ⟨m, q1, (g2 120 t (by omega) (by omega) (by omega) (by omega)).trans q2, q3, fun x hx => ?_⟩
    rw [f2 32 _ (by omega) (by omega) (by omega), g2 121 _ (by omega) (by omega) (by omega) (by omega)]
    exact ⟨(q4 x hx).1, vm _ (q4 x hx).2⟩
  · exact ⟨⟨fun k _ => f2 57 k (by omega) (by omega) (by omega), fun k _ q => fr58 k q, fun e a _ => ⟨l2 48 e, l2 49 e⟩⟩, ⟨fun t q => g2 131 t (by omega) (by omega) (by omega) (by omega), fun t c _ q2 q3 => g2 c t (by omega) (by omega) (by omega) (by omega), fun k c q q2 => g2 c k (by omega) (by omega) (by omega) (by omega), fun t c _ q2 q3 => g2 c t (by omega) (by omega) (by omega) (by omega), fun e a _ => ⟨gl 141 a, gl 142 a, g2 143 a (by omega) (by omega) (by omega) (by omega)⟩⟩, vm, km⟩
end YIF
