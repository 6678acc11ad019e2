/-! BUILD on both sides: output EXPR, in step -/
section YOV
variable {l : Launch} {Cx : Nat → Prop} {Gr : zG} {n w : Nat} {d : Nat} {Av Av' : Nat → Nat → Prop} {S T A A' A1 A2 B B' B0 B1 B2 : zS} {Z Z1 Z2 : Nat → zS → zS → Prop} {c c1 c2 : Int} {i i' hc st r i1 j j' j1 j2 N M z e vw nv u sd no p lo hi k a b y m q D bn : Nat} {vb vq vt bo : Nat → Nat} {os : List Nat} {Q : Option Value → zS → Prop} {X : Nat → Int32}
def boN (bo : Nat → Nat) (no m : Nat) : Nat → Nat := fun t => if t = no + 1 then bo no + m else bo t
theorem out_fin (hg : ip_gk (lg_tbl, vwCl, Gr)) (ho : ip_old (lg_tbl, vwCl, Gr)) (hw1 : 1 ≤ w) (hw : w ≤ 32) (cx : CTX S T N M) (h0 : XS w Av S T 0 0 0 0 0 i1 (hc + 1) 1 st A B0 ∧ OAs w [r] hc 0 A B0 ∧ YE w Av S vw nv vb vq vt u (sd + 1) no bo A B0) (hr : r ≤ 1) (hno : no < 444) (hsd : sd < 80) (u4 : S.1 4 i1 = 13) (u5 : S.1 5 i1 = nI r) (t1 : T.1 78 j1 = 30) (t80 : T.1 80 j1 = nI r) (t2 : T.1 78 (j1 + 1) = 21) (hi' : i1 < N) (hj : j1 + 1 < M) (hhc : hc + 2 ≤ 9682) : TRz l Gr n w d (fun st A B => XS w Av S T 0 0 0 0 0 i1 (hc + 1) 1 st A B ∧ OAs w [r] hc 0 A B ∧ YE w Av S vw nv vb vq vt u (sd + 1) no bo A B) (fun st A B => YB w Av S T (i1 + 1) hc st A B ∧ YE w Av S vw nv vb vq vt u sd (no + 1) (boN bo no (bw w r)) A B) (SF w Cx Av hc sd u nv vw lo hi) (-1) j1 (j1 + 2) st A := by
  obtain ⟨h0, o0, y0⟩ := h0
  have hN := cx.2.1
  have hM := cx.2.2.2
  have hml := bw_le (w := w) (r := r) hw1
  have hst := h0.2.2.2.2.1
  obtain ⟨z1, z2, z3, z4, z5⟩ := y0.2.2.2.2.2
  have hbn := (z4 no (Nat.le_refl _)).2
  obtain ⟨A2, ⟨K, F2, c8, c11, c31, v32⟩, run⟩ := zMv_det (w_st13 (l := l) (n := n) (d := d + 4) (A := zi A 45 16 (nI (i1 + 1))) (j := i1) (r := r) (m := bw w r) (b := hc * w) (no := no) (bn := bo no) hg hw hw1 (by omega) hr rfl (by rw [zi_c (by decide), h0.1.1.2 5 i1 (by omega)]; exact u5) (by rw [zi_k (by decide), ← hc2]; exact h0.1.2.2.2.1) (hcw (by omega)) (by rw [zi_c (by decide)]; exact z1) hno (by rw [zi_c (by decide)]; exact (z4 no (Nat.le_refl _)).1) hbn)
  have g := ck_1 (z := 13) (e := 1) hg ho hw cx h0 hi' u4 (by omega) rfl (by omega) (by omega) (kg_S (l := l) (n := n) (d := d) hg (by omega) run)
  have K : KEc A A2 := KEc_tr KEc_16 K
  have f2 : ∀ c k, ¬ (c = 45 ∧ (k = 8 ∨ k = 16)) → ¬ (c = 24 ∧ ¬ (4 ≤ k ∧ k ≤ 8)) → ¬ (c = 31 ∧ k = no + 1) → ¬ (c = 32 ∧ bo no ≤ k ∧ k < bo no + bw w r) → A2.1 c k = A.1 c k := fun c k q1 q2 q3 q4 => by
    by_cases q : c = 24 ∧ 4 ≤ k ∧ k ≤ 8
    · rw [q.1]
      exact K.1 k q.2.1 q.2.2
    · by_cases q' : 25 ≤ c ∧ c ≤ 28
      · exact K.2 c k q'.1 q'.2
      · rw [F2.1 c k (by omega) q' (by omega), zi_get, if_neg (by omega)]
  have c16 : A2.1 45 16 = nI (i1 + 1) := by rw [F2.1 45 16 (by omega) (by omega) (by omega)]; exact zi_v
  have l2 : ∀ c k, A2.2 c k = A.2 c k := fun c k => F2.2 c k
  have c7 : A2.1 24 7 = 0 := (K.1 7 (by omega) (by omega)).trans h0.1.2.2.1
  have c18 : A2.1 45 18 = nI st := (f2 45 18 (by omega) (by omega) (by omega) (by omega)).trans h0.1.2.2.2.2.2.1
  rw [kEnd_g (st := st) c7 c18 hst] at g
  have kb : KBc A A2 := ⟨fun c k q1 q2 q3 => by
    by_cases q : c = 24
    · rw [q, show k = 8 by omega]
      exact K.1 8 (by omega) (by omega)
    · exact f2 c k (by omega) (by omega) (by omega) (by omega), fun c k _ => l2 c k⟩
  refine ⟨1, A2, g, kb, Or.inl ⟨st, Nat.le_refl _, by omega, fun B hB => ?_⟩⟩
  obtain ⟨hB, oB, y1, y2, ⟨y3, y4, y5, y6, y7⟩, y8, y9, o1, o2, o3, o4, o5⟩ := hB
  have oa : OA w r hc 0 A B := oB 0 (Nat.succ_pos _)
  have mT : ∀ c k, (78 ≤ c ∧ c ≤ 81) ∨ c = 89 ∨ (102 ≤ c ∧ c ≤ 107) ∨ c = 117 → B.1 c k = T.1 c k := hB.2.1.1.2.1
  obtain ⟨x1, B1, ⟨ex, M1, F1, b69, b85, b120, v121⟩, r1⟩ := zMi_det (ms_30 (l := l) (n := n) (w := w) (d := d + 5) (B := B) (j := j1) (r := r) (m := bw w r) (q := 0) (t := no) (X := fun x => B.1 122 (32 * 0 + x)) hg hw (by omega) hr rfl (by omega) (by omega) ((mT 78 j1 (by omega)).trans t1) ((mT 80 j1 (by omega)).trans t80) o2 hB.2.1.2.1 (fun _ _ => rfl))
  subst ex
  have n1 : MGo l Gr n w d B j1 B1 (j1 + 1) := mg_s (z := 30) hg (by omega) hM (hB.2.1.1.1.trans cx.2.2.1) (XS_7 hB) ((mT 78 j1 (by omega)).trans t1) (by omega) (by omega) r1
  have F1' : ∀ c k, ¬ (c = 73 ∧ (k = 8 ∨ k = 69 ∨ k = 85)) → ¬ (c = 120 ∧ k = no) → ¬ (c = 121 ∧ 32 * no ≤ k ∧ k < 32 * no + 32) → B1.1 c k = B.1 c k := fun c k q1 q2 q3 => by
    by_cases z1 : c = 73 ∧ (k = 7 ∨ k = 66 ∨ k = 67 ∨ k = 68)
    · rw [z1.1]
      exact M1.1 k (by omega)
    · by_cases z2 : 111 ≤ c ∧ c ≤ 114
      · exact M1.2 c k (Or.inl z2)
      · exact F1.1 c k (by omega) z2 (by omega)
  have b94 : B1.1 73 94 = nI (sd + 1) := (F1' 73 94 (by omega) (by omega) (by omega)).trans y1
  have b78 : B1.1 78 (j1 + 1) = nI 21 := ((F1' 78 _ (by omega) (by omega) (by omega)).trans (mT 78 _ (by omega))).trans t2
  have n2 : MGo l Gr n w d B1 (j1 + 1) (zi B1 73 94 (nI sd)) (j1 + 2) := mg_s (z := 21) hg hj hM (((F1' 73 13 (by omega) (by omega) (by omega)).trans hB.2.1.1.1).trans cx.2.2.1) ((F1' 73 7 (by omega) (by omega) (by omega)).trans (XS_7 hB)) b78 (by omega) (by omega) (ms_21 (d := d + 5) (by omega) b78 b94)
  have g2 : ∀ c k, ¬ (c = 73 ∧ (k = 8 ∨ k = 69 ∨ k = 85 ∨ k = 94)) → ¬ (c = 120 ∧ k = no) → ¬ (c = 121 ∧ 32 * no ≤ k ∧ k < 32 * no + 32) → (zi B1 73 94 (nI sd)).1 c k = B.1 c k := fun c k q1 q2 q3 => by rw [zi_get, if_neg (by omega)]; exact F1' c k (by omega) q2 q3
  have El : MEl B (zi B1 73 94 (nI sd)) := ⟨fun k q => g2 73 k (by omega) (by omega) (by omega), fun c k q => g2 c k (by omega) (by omega) (by omega)⟩
  have vm : VM B (zi B1 73 94 (nI sd)) := fun x hx => VC_El El hx
  have km : KBm B (zi B1 73 94 (nI sd)) := ⟨fun c k q1 q2 q3 => g2 c k (by omega) (by omega) (by omega), fun c k _ => F1.2 c k⟩
  refine ⟨_, MGo_tr n1 n2, ⟨⟨⟨CCo_K hB.1.1 kb, (f2 3 5 (by omega) (by omega) (by omega) (by omega)).trans hB.1.2.1, c7, c8, c16, c18, (f2 45 13 (by omega) (by omega) (by omega) (by omega)).trans hB.1.2.2.2.2.2.2.1, (f2 45 12 (by omega) (by omega) (by omega) (by omega)).trans hB.1.2.2.2.2.2.2.2⟩, ⟨MCo_K hB.2.1.1 km, by rw [zi_k (by decide)]; exact b85, (g2 73 70 (by omega) (by omega) (by omega)).trans hB.2.1.2.2.1, (g2 73 110 (by omega) (by omega) (by omega)).trans hB.2.1.2.2.2.1⟩, RL_El hB.2.2.1 hB.1.2.2.1 K El ⟨sd, by omega, zi_v⟩, hst, EN_set (m := 0) (a := 0) hB.2.2.2.2.2.2.2 hw (by omega) (fun c k q => f2 c k (by omega) (by omega) (by omega) (by omega)) (fun k => l2 48 k) (fun c k q => g2 c k (by omega) (by omega) (by omega)) (fun k => F1.2 141 k) vm (fun x hx => absurd hx (by omega)) hw1⟩, zi_v, (g2 73 101 (by omega) (by omega) (by omega)).trans y2, ⟨(g2 73 97 (by omega) (by omega) (by omega)).trans y3, y4, y5, fun t ht => by rw [g2 133 t (by omega) (by omega) (by omega), g2 134 t (by omega) (by omega) (by omega), g2 135 t (by omega) (by omega) (by omega)]; exact y6 t ht, y7⟩, y8, fun k hk => by rw [f2 58 k (by omega) (by omega) (by omega) (by omega)]; exact y9 k hk, c11, by rw [zi_k (by decide)]; exact b69, ?_, fun t ht => ?_, fun t ht => ?_⟩, ?_⟩
  · show (if 0 = no + 1 then _ else _) = 0
    rw [if_neg (by omega)]
    exact o3
  · unfold boN
    by_cases q : t = no + 1
    · rw [if_pos q, q]
      exact ⟨c31, by rw [Nat.succ_mul]; omega⟩
    · rw [if_neg q, f2 31 t (by omega) (by omega) (by omega) (by omega)]
      exact o4 t (by omega)
  · unfold boN
    by_cases q : t = no
    · subst q
      rw [if_pos rfl, if_neg (by omega)]
      refine ⟨bw w r, ?_, by rw [zi_c (by decide)]; exact b120, rfl, fun x hx => ?_⟩
      · unfold bw
        split
        · exact Or.inl rfl
        · exact Or.inr rfl
      · rw [v32 x hx, zi_c (by decide), zi_c (by decide), v121 x hx]
        exact ⟨(oa x hx).1, vm _ (oa x hx).2⟩
    · rw [if_neg (by omega), if_neg (by omega)]
      obtain ⟨m, q1, q2, q3, q4⟩ := o5 t (by omega)
      have hm32 : m ≤ 32 := by omega
      have mono : ∀ s, t + 1 + s ≤ no → bo (t + 1) ≤ bo (t + 1 + s) := fun s => by
        induction s with
        | zero => exact fun _ => Nat.le_refl _
        | succ s ih =>
          intro hs
          obtain ⟨m', -, -, e', -⟩ := o5 (t + 1 + s) (by omega)
          have := ih (by omega)
          rw [← Nat.add_assoc, e']
          omega
      have hle : bo (t + 1) ≤ bo no := by
        have := mono (no - (t + 1)) (by omega)
        rw [show t + 1 + (no - (t + 1)) = no by omega] at this
        exact this
      refine ⟨m, q1, (g2 120 t (by omega) (by omega) (by omega)).trans q2, q3, fun x hx => ?_⟩
      rw [f2 32 _ (by omega) (by omega) (by omega) (by omega), g2 121 _ (by omega) (by omega) (by omega)]
      exact ⟨(q4 x hx).1, vm _ (q4 x hx).2⟩
  · exact ⟨⟨fun k _ => f2 57 k (by omega) (by omega) (by omega) (by omega), fun k _ q => f2 58 k (by omega) (by omega) (by omega) (by omega), fun e a _ => ⟨l2 48 e, l2 49 e⟩⟩, ⟨fun t q => g2 131 t (by omega) (by omega) (by omega), fun t c _ q2 q3 => g2 c t (by omega) (by omega) (by omega), fun k c _ q2 => g2 c k (by omega) (by omega) (by omega), fun t c _ q2 q3 => g2 c t (by omega) (by omega) (by omega), fun e a _ => ⟨F1.2 141 a, F1.2 142 a, g2 143 a (by omega) (by omega) (by omega)⟩⟩, vm, km⟩
theorem y_out (hg : ip_gk (lg_tbl, vwCl, Gr)) (ho : ip_old (lg_tbl, vwCl, Gr)) (hw1 : 1 ≤ w) (hw : w ≤ 32) (cx : CTX S T N M) (nu : ∀ x, x ≤ N → ur S x ≤ 30) (an : aOut w D S T Av p i i' j j') (hno : no < 444) (hsd : sd < 80) (hi' : i' ≤ N) (hj : j' ≤ M) (hhc : hc + 2 ≤ 9682) : ∃ m, (m = 1 ∨ m = w) ∧ ∀ st A B0, (YB w Av S T i hc st A B0 ∧ YE w Av S vw nv vb vq vt u sd no bo A B0) → (∀ r i1 j1, aX w D Av r S T (i + 1) i1 (j + 1) j1 → i1 < i' → j1 < j' → ∀ A1 B1 st1, XS w Av S T 0 0 0 0 0 (i + 1) hc 0 st1 A1 B1 → TRx l Gr n w d Av S T 0 0 0 0 0 r (i + 1) i1 (j + 1) j1 hc 0 st1 A1) → TRz l Gr n w d (fun st A B => YB w Av S T i hc st A B ∧ YE w Av S vw nv vb vq vt u sd no bo A B) (fun st A B => YB w Av S T i' hc st A B ∧ YE w Av S vw nv vb vq vt u sd (no + 1) (boN bo no m) A B) (SF w Cx Av hc sd u nv vw lo hi) 0 j j' st A := by
  obtain ⟨r, i1, j1, hr, hx, e1, e2, f1, f2, f3, f4, t1, t2, t3, t4, t5⟩ := an
  have bx := aX_bnd hx
  subst e1 e2
  refine ⟨bw w r, ?_, fun st A B0 h0 expr => ?_⟩
  · unfold bw
    split
    · exact Or.inl rfl
    · exact Or.inr rfl
  have s1 := y_beg (l := l) (Gr := Gr) (n := n) (d := d) (Cx := Cx) (lo := lo) (hi := hi) hg ho hw1 hw cx h0 f1 f2 t1 t2 hsd (by omega) (by omega) (by omega)
  have smo : ∀ (A A' B B' : zS), SF w Cx Av hc (sd + 1) u nv vw lo hi A A' B B' → SF w Cx Av hc sd u nv vw lo hi A A' B B' := fun A A' B B' h => SF_mo h (fun _ _ h => h) (Nat.le_refl _) (by omega) (Nat.le_refl _) (Nat.le_refl _) (Nat.le_refl _) (Nat.le_refl _) (Nat.le_refl _)
  have s3 := TRz_seq (c2 := 0) (Z2 := fun st A B => XS w Av S T 0 0 0 0 0 i1 (hc + 1) 1 st A B ∧ OAs w [r] hc 0 A B ∧ YE w Av S vw nv vb vq vt u (sd + 1) no bo A B) (j2 := j1) h0 s1 (by omega) (fun st A B h => h.1.2.2.2.2.1) (fun _ _ _ _ _ _ => SF_tr) (fun _ _ _ _ h => h.2.2.2) (fun A1 B1 st1 _ z1 => TRz_mo (u_z (os := [r]) (hcF := hc) (Cx := Cx) (lo := lo) (hi := hi) z1.1.2.2.2.2.1 (TRu_app (r := r) hw1 hw z1.1 (nu i1 (by omega)) (TRu_nil (l := l) (Gr := Gr) (n := n) (d := d) (i := i + 1) (j := j + 1)) (fun A2 B2 st2 _ x2 => expr r i1 j1 hx (by omega) (by omega) A2 B2 st2 x2)) (Nat.le_refl _)) smo)
  have s4 := TRz_seq (c2 := -1) (Z2 := fun st A B => YB w Av S T (i1 + 1) hc st A B ∧ YE w Av S vw nv vb vq vt u sd (no + 1) (boN bo no (bw w r)) A B) (j2 := j1 + 2) h0 s3 (by omega) (fun st A B h => h.1.2.2.2.2.1) (fun _ _ _ _ _ _ => SF_tr) (fun _ _ _ _ h => h.2.2.2) (fun A1 B1 st1 _ z1 => out_fin hg ho hw1 hw cx z1 hr hno hsd f3 f4 t3 t4 t5 (by omega) (by omega) (by omega))
  exact TRz_le s4 (by omega)
end YOV
