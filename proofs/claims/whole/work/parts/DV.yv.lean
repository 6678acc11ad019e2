/-! BUILD on both sides: var -/
section YVA
variable {l : Launch} {Cx : Nat → Prop} {Gr : zG} {n w : Nat} {d : Nat} {Av Av' : Nat → Nat → Prop} {S T A A' A1 A2 B B' B0 B1 B2 : zS} {Z Z1 Z2 : Nat → zS → zS → Prop} {c c1 c2 : Int} {i i' hc hr st r i1 j j' j1 j2 N M z z2 e vw nv u sd no p lo hi k a b y m q D hcx hrx vw' : Nat} {vb vq vt bo : Nat → Nat} {os : List Nat} {V V' : Nat → Int32}
def xt (f : Nat → Nat) (nv v : Nat) : Nat → Nat := fun t => if t = nv then v else f t
theorem xt_n {f : Nat → Nat} {t v : Nat} (h : t < nv) : xt f nv v t = f t := if_neg (by omega)
theorem xt_v {f : Nat → Nat} {v : Nat} : xt f nv v nv = v := if_pos rfl
/-- both behind a var -/
theorem var_core (hw1 : 1 ≤ w) (hw : w ≤ 32) (hB : XS w Av S T 0 0 0 0 0 i1 hcx hrx st A B) (yB : YE w Av S vw nv vb vq vt u (sd + 1) no bo A B) (s11 : S.1 11 e = 1) (s12 : S.1 12 e = nI r) (s13 : S.1 13 e = nI z) (hr : r ≤ 1) (hz : z ≤ 64) (hvw : vw + max 1 z ≤ 256) (hsd : sd < 80) (f2 : ∀ c k, ¬ (c = 45 ∧ (k = 8 ∨ k = 16)) → ¬ (c = 58 ∧ vw * w ≤ k ∧ k < (vw + max 1 z) * w) → A2.1 c k = A.1 c k) (l2 : ∀ c k, A2.2 c k = A.2 c k) (c8 : A2.1 45 8 = nI (hc * w)) (c16 : A2.1 45 16 = nI i') (v58 : ∀ y x, y < max 1 z → x < bw w r → A2.1 58 ((vw + y) * w + x) = V x) (cn : ∀ k, k < 256 * w → CNl (A.1 58 k) → (∀ x, x < bw w r → CNl (V x)) → CNl (A2.1 58 k)) (vm1 : VWm B B1 vw (max 1 z) (bw w r) nv V) (b85 : B1.1 73 85 = nI 0) (hV : ∀ x, x < bw w r → VC B (V x)) : (YB w (adA Av e vw) S T i' hc st A2 (zi B1 73 94 (nI sd)) ∧ YE w (adA Av e vw) S (vw + max 1 z) (nv + 1) (xt vb nv vw) (xt vq nv (max 1 z)) (xt vt nv (bw w r)) u sd no bo A2 (zi B1 73 94 (nI sd))) ∧ SF w Cx Av hcx sd u nv vw lo hi A A2 B (zi B1 73 94 (nI sd)) := by
  obtain ⟨y1, y2, ⟨y3, y4, y5, y6, y7⟩, y8, y9, o1, o2, o3, o4, o5⟩ := yB
  obtain ⟨F1, L1, b97, b133, b134, b135, b132⟩ := vm1
  have hst := hB.2.2.2.2.1
  have hml := bw_le (w := w) (r := r) hw1
  have mq : (vw + max 1 z) * w ≤ 256 * w := Nat.mul_le_mul_right _ hvw
  have g2 : ∀ c k, ¬ (c = 73 ∧ (k = 85 ∨ k = 94 ∨ k = 97)) → ¬ (c = 125 ∧ k < 40) → ¬ ((133 ≤ c ∧ c ≤ 135) ∧ k = nv) → ¬ (c = 132 ∧ 32 * vw ≤ k ∧ k < 32 * (vw + max 1 z)) → (zi B1 73 94 (nI sd)).1 c k = B.1 c k := fun c k q1 q2 q3 q4 => by rw [zi_get, if_neg (by omega)]; exact F1 c k (by omega) q2 q3 q4
  have El : MEl B (zi B1 73 94 (nI sd)) := ⟨fun k q => g2 73 k (by omega) (by omega) (by omega) (by omega), fun c k q => g2 c k (by omega) (by omega) (by omega) (by omega)⟩
  have vm : VM B (zi B1 73 94 (nI sd)) := fun x hx => VC_El El hx
  have km : KBm B (zi B1 73 94 (nI sd)) := ⟨fun c k q1 q2 q3 => g2 c k (by omega) (by omega) (by omega) (by omega), fun c k _ => L1 c k⟩
  have kb : KBc A A2 := ⟨fun c k q1 q2 q3 => f2 c k (by omega) (by omega), fun c k _ => l2 c k⟩
  have K : KEc A A2 := ⟨fun k q1 q2 => f2 24 k (by omega) (by omega), fun c k q1 q2 => f2 c k (by omega) (by omega)⟩
  have hv : ∀ y x, y < max 1 z → x < bw w r → A2.1 58 ((vw + y) * w + x) = (zi B1 73 94 (nI sd)).1 132 (32 * (vw + y) + x) ∧ VC (zi B1 73 94 (nI sd)) ((zi B1 73 94 (nI sd)).1 132 (32 * (vw + y) + x)) := fun y x hy hx => by
    rw [v58 y x hy hx, zi_c (by decide), b132 y x hy hx]
    exact ⟨rfl, vm _ (hV x hx)⟩
  have en : EN w (adA Av e vw) S 0 0 0 0 A2 (zi B1 73 94 (nI sd)) := by
    intro e' a' r' z' h1 h2 h3 h4 h5
    rcases h1 with h1 | ⟨h1, h1'⟩
    · obtain ⟨k0, k1, k2, k3⟩ := hB.2.2.2.2.2.2.2 e' a' r' z' h1 h2 h3 h4 h5
      refine ⟨fun y => ⟨(k0 y).1, fun t ht => ?_⟩, fun y => ⟨(k1 y).1, fun t x ht hx => ?_⟩, fun y => ?_, fun y => absurd (k3 y).2.1 (by omega)⟩
      · rw [f2 20 _ (by omega) (by omega), g2 117 _ (by omega) (by omega) (by omega) (by omega)]
        exact ⟨((k0 y).2 t ht).1, fun x hx => vm _ (((k0 y).2 t ht).2 x hx)⟩
      · obtain ⟨t', q1, q2, q3, q4⟩ := y8 e' a' r' z' h1 y h2 h4 h3 h5
        have q5 := (y6 t' q1).2.2.2.2.1
        have hb := bw_le (w := w) (r := r') hw1
        have m1 : (a' + t) * w + w ≤ vw * w := by rw [← Nat.succ_mul]; exact Nat.mul_le_mul_right _ (by omega)
        rw [f2 58 _ (by omega) (by omega), g2 132 _ (by omega) (by omega) (by omega) (by omega)]
        exact ⟨((k1 y).2 t x ht hx).1, vm _ ((k1 y).2 t x ht hx).2⟩
      · rw [l2, show (zi B1 73 94 (nI sd)).2 141 a' = B.2 141 a' from L1 141 a']
        exact k2 y
    · rw [h1] at h4 h5
      have er : r' = r := (nI_eq (by omega) (by omega)).mp (h4.symm.trans s12)
      have ez : z' = z := (nI_eq (by omega) (by omega)).mp (h5.symm.trans s13)
      subst er ez
      rw [h1, h1']
      refine ⟨fun y => ?_, fun y => ⟨hvw, fun t x ht hx => hv t x ht hx⟩, fun y => ?_, fun y => ?_⟩
      · rw [s11] at y; exact absurd y (by decide)
      · rw [s11] at y; exact absurd y (by decide)
      · rw [s11] at y; exact absurd y (by decide)
  have bwv : bw w r = 1 ∨ bw w r = w := by unfold bw; split <;> omega
  refine ⟨⟨⟨⟨CCo_K hB.1.1 kb, (f2 3 5 (by omega) (by omega)).trans hB.1.2.1, (f2 24 7 (by omega) (by omega)).trans hB.1.2.2.1, c8, c16, (f2 45 18 (by omega) (by omega)).trans hB.1.2.2.2.2.2.1, (f2 45 13 (by omega) (by omega)).trans hB.1.2.2.2.2.2.2.1, (f2 45 12 (by omega) (by omega)).trans hB.1.2.2.2.2.2.2.2⟩, ⟨MCo_K hB.2.1.1 km, by rw [zi_k (by decide)]; exact b85, (g2 73 70 (by omega) (by omega) (by omega) (by omega)).trans hB.2.1.2.2.1, (g2 73 110 (by omega) (by omega) (by omega) (by omega)).trans hB.2.1.2.2.2.1⟩, RL_El hB.2.2.1 hB.1.2.2.1 K El ⟨sd, by omega, zi_v⟩, hst, en⟩, zi_v, (g2 73 101 (by omega) (by omega) (by omega) (by omega)).trans y2, ⟨by rw [zi_k (by decide)]; exact b97, by omega, hvw, fun t ht => ?_, fun t ht => ?_⟩, fun e' a' r' z' h1 h2 h3 h4 h5 h6 => ?_, fun k hk => cn k hk (y9 k hk) (fun x hx => (hV x hx).2), (f2 24 11 (by omega) (by omega)).trans o1, (g2 73 69 (by omega) (by omega) (by omega) (by omega)).trans o2, o3, fun t ht => by rw [f2 31 t (by omega) (by omega)]; exact o4 t ht, fun t ht => ?_⟩, ?_⟩
  · by_cases q : t = nv
    · subst q
      rw [xt_v, xt_v, xt_v, zi_c (by decide), zi_c (by decide), zi_c (by decide)]
      exact ⟨b133, b134, b135, by omega, by omega, bwv⟩
    · rw [xt_n (by omega), xt_n (by omega), xt_n (by omega), g2 133 t (by omega) (by omega) (by omega) (by omega), g2 134 t (by omega) (by omega) (by omega) (by omega), g2 135 t (by omega) (by omega) (by omega) (by omega)]
      obtain ⟨w1, w2, w3, w4, w5, w6⟩ := y6 t (by omega)
      exact ⟨w1, w2, w3, w4, by omega, w6⟩
  · by_cases q : t + 1 = nv
    · rw [xt_n (by omega), xt_n (by omega), q, xt_v]
      exact (y6 t (by omega)).2.2.2.2.1
    · rw [xt_n (by omega), xt_n (by omega), xt_n (by omega)]
      exact y7 t (by omega)
  · rcases h1 with h1 | ⟨h1, h1'⟩
    · obtain ⟨t', q1, q2, q3, q4⟩ := y8 e' a' r' z' h1 h2 h3 h4 h5 h6
      exact ⟨t', by omega, by rw [xt_n q1]; exact q2, by rw [xt_n q1]; exact q3, by rw [xt_n q1]; exact q4⟩
    · rw [h1] at h4 h6
      have er : r' = r := (nI_eq (by omega) (by omega)).mp (h4.symm.trans s12)
      have ez : z' = z := (nI_eq (by omega) (by omega)).mp (h6.symm.trans s13)
      subst er ez
      exact ⟨nv, by omega, by rw [xt_v, h1'], xt_v, xt_v⟩
  · obtain ⟨m, q1, q2, q3, q4⟩ := o5 t ht
    refine ⟨m, q1, (g2 120 t (by omega) (by omega) (by omega) (by omega)).trans q2, q3, fun x hx => ?_⟩
    rw [f2 32 _ (by omega) (by omega), g2 121 _ (by omega) (by omega) (by omega) (by omega)]
    exact ⟨(q4 x hx).1, vm _ (q4 x hx).2⟩
  · exact ⟨⟨fun k _ => f2 57 k (by omega) (by omega), fun k q _ => f2 58 k (by omega) (by omega), fun e a _ => ⟨l2 48 e, l2 49 e⟩⟩, ⟨fun t q => g2 131 t (by omega) (by omega) (by omega) (by omega), fun t c _ q2 q3 => g2 c t (by omega) (by omega) (by omega) (by omega), fun k c _ q2 => g2 c k (by omega) (by omega) (by omega) (by omega), fun t c q q2 q3 => g2 c t (by omega) (by omega) (by omega) (by omega), fun e a _ => ⟨L1 141 a, L1 142 a, g2 143 a (by omega) (by omega) (by omega) (by omega)⟩⟩, vm, km⟩
theorem ms_25 (hg : ip_gk (lg_tbl, vwCl, Gr)) {R : zS → Prop} (hj : j < 12000) (h78 : B.1 78 j = 25) (q : zMv l Gr (zc n w) 168 M_Mo_variable (d + 5) [.ref 105, .int (nI j)] B R) : zMi l Gr (zc n w) 168 M_Mo_statement (d + 6) [.ref 105, .int (nI j)] B (fun v B' => v = nI (j + 1) ∧ R B') := e_Mo_statement (ms_0 (z := 25) hj h78 (by omega) (by omega) (by omega) (fun _ => b_Mo_statement_157 hg q (fun B' r => b_Mo_statement_162 (ms_end r))) (by omega) (by omega) (by omega) (by omega) (by omega) (by omega) (by omega) (by omega) (by omega) (by omega) (by omega) (by omega))
/-- variable() and the statement's end -/
theorem mvar_go (hg : ip_gk (lg_tbl, vwCl, Gr)) (hw : w ≤ 32) (hw1 : 1 ≤ w) (cx : CTX S T N M) (hB : XS w Av S T 0 0 0 0 0 i1 hcx hrx st A B) (yB : YE w Av S vw nv vb vq vt u (sd + 1) no bo A B) (hr : r ≤ 1) (hz : z ≤ 64) (hvw : vw + max 1 z ≤ 256) (t78 : T.1 78 j1 = 25) (t80 : T.1 80 j1 = nI r) (t89 : T.1 89 j1 = nI vw) (t21 : T.1 78 (j1 + 1) = 21) (hj : j1 + 1 < M) (hv : (T.2 82 j1 = lN (65536 + 256 * z) ∧ hrx = 1 ∧ V = fun x => B.1 122 (32 * 0 + x)) ∨ (T.2 82 j1 = lN (256 * z) ∧ hrx = 0 ∧ V = fun _ => -2)) : ∃ B1, VWm B B1 vw (max 1 z) (bw w r) nv V ∧ B1.1 73 85 = nI 0 ∧ MGo l Gr n w d B j1 (zi B1 73 94 (nI sd)) (j1 + 2) := by
  have hM := cx.2.2.2
  obtain ⟨y1, y2, ⟨y3, y4, y5, y6, y7⟩, -⟩ := yB
  have mT : ∀ c k, (78 ≤ c ∧ c ≤ 81) ∨ c = 89 ∨ (102 ≤ c ∧ c ≤ 107) ∨ c = 117 → B.1 c k = T.1 c k := hB.2.1.1.2.1
  obtain ⟨x1, B1, ⟨ex, vm1, b85⟩, r1⟩ := zMi_det (ms_25 (l := l) (n := n) (w := w) (d := d + 5) (j := j1) (B := B) hg (by omega) ((mT 78 j1 (by omega)).trans t78) (wm_var (d := d + 5) (h := 0) (V := V) (a := vw) (t := nv) (z := z) (r := r) (m := bw w r) hg hw hw1 (by omega) hr rfl hz (by omega) hvw ((mT 80 j1 (by omega)).trans t80) ((mT 89 j1 (by omega)).trans t89) y3 (by
    rcases hv with ⟨q1, q2, q3⟩ | ⟨q1, q2, q3⟩
    · subst q2
      exact Or.inl ⟨(hB.2.1.1.2.2 j1).trans q1, hB.2.1.2.1, by omega, q3⟩
    · subst q2
      exact Or.inr ⟨(hB.2.1.1.2.2 j1).trans q1, hB.2.1.2.1, q3⟩)))
  subst ex
  have n1 : MGo l Gr n w d B j1 B1 (j1 + 1) := mg_s (z := 25) hg (by omega) hM (hB.2.1.1.1.trans cx.2.2.1) (XS_7 hB) ((mT 78 j1 (by omega)).trans t78) (by omega) (by omega) r1
  have F1 := vm1.1
  have e78 : B1.1 78 (j1 + 1) = 21 := ((F1 78 _ (by omega) (by omega) (by omega) (by omega)).trans (mT 78 _ (by omega))).trans t21
  have n2 : MGo l Gr n w d B1 (j1 + 1) (zi B1 73 94 (nI sd)) (j1 + 2) := mg_s (z := 21) hg hj hM (((F1 73 13 (by omega) (by omega) (by omega) (by omega)).trans hB.2.1.1.1).trans cx.2.2.1) ((F1 73 7 (by omega) (by omega) (by omega) (by omega)).trans (XS_7 hB)) e78 (by omega) (by omega) (ms_21 (d := d + 5) (by omega) e78 ((F1 73 94 (by omega) (by omega) (by omega) (by omega)).trans y1))
  exact ⟨B1, vm1, b85, MGo_tr n1 n2⟩
end YVA
