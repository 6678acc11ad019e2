/-! BUILD on both sides: the PROGRAM -/
def PGZ (w : Nat) (Av : Nat → Nat → Prop) (S T : zS) (i vw nv : Nat) (vb vq vt : Nat → Nat) (no : Nat) (bo : Nat → Nat) (iwb st : Nat) (A B : zS) : Prop := (YB w Av S T i 0 st A B ∧ YE w Av S vw nv vb vq vt 0 0 no bo A B) ∧ B.1 73 65 = nI iwb
section PGA
variable {l : Launch} {Gr : zG} {n w d D N M mf : Nat} {S T A A' B B0 : zS} {i0 i0' p0 p0' lo hi vw vw' : Nat} {Av Av' : Nat → Nat → Prop} {p p' i i' j j' j1 j2 nv st c c1 c2 k s r z : Nat} {vb vq vt : Nat → Nat} {u hc sd no e a x iwF iwb : Nat} {bo : Nat → Nat} {t : Int}
theorem EN_row (hw1 : 1 ≤ w) (h : EN w Av S 0 0 0 0 A B) (f20 : A'.1 20 = A.1 20) (f58 : A'.1 58 = A.1 58) (l2 : A'.2 = A.2) : EN w Av S 0 0 0 0 A' B := fun e a r z h1 h2 h3 h4 h5 => by
  obtain ⟨k0, k1, k2, k3⟩ := h e a r z h1 h2 h3 h4 h5
  refine ⟨fun q => by rw [f20]; exact k0 q, fun q => by rw [f58]; exact k1 q, fun q => by rw [l2]; exact k2 q, fun q => ?_⟩
  have := (k3 q).1
  omega
theorem HU_par (h : HU S i0 i u s t) : ∀ k, (∀ a, a < k → S.1 4 (i + a) = 4) → HU S i0 (i + k) u s t
  | 0, _ => h
  | k + 1, q => HU_e (HU_1 (HU_par h k (fun a ha => q a (by omega))) (q k (by omega)) (by decide : E2 (4 : Int32).toInt = 0)) (by omega)
theorem EN_inp (hw1 : 1 ≤ w) (hw : w ≤ 32) (inf : INF iwF iwb S T) (hB : YB w Av S T i 0 st A B) (b65 : B.1 73 65 = nI iwb) (g11 : S.1 11 e = 0) (g12 : S.1 12 e = nI r) (g13 : S.1 13 e = nI z) (hr : r ≤ 1) (hz : z ≤ 64) (ha : a + max 1 z ≤ 256) (haF : a + max 1 z ≤ iwF) (h19 : ∀ y, y < max 1 z → S.1 19 (a + y) = nI (if r = 1 then 1 else w)) (f20 : A'.1 20 = A.1 20) (f58 : A'.1 58 = A.1 58) (l2 : A'.2 = A.2) : EN w (adA Av e a) S 0 0 0 0 A' B := fun e' a' r' z' h1 h2 h3 h4 h5 => by
  rcases h1 with h1 | ⟨rfl, rfl⟩
  · exact EN_row hw1 hB.2.2.2.2 f20 f58 l2 e' a' r' z' h1 h2 h3 h4 h5
  · have er : r' = r := (nI_eq (by omega) (by omega)).mp (h4.symm.trans g12)
    have ez : z' = z := (nI_eq (by omega) (by omega)).mp (h5.symm.trans g13)
    subst er ez
    refine ⟨fun _ => ⟨ha, fun y hy => ?_⟩, fun q => absurd (g11.symm.trans q) (by decide), fun q => absurd (g11.symm.trans q) (by decide), fun q => absurd (g11.symm.trans q) (by decide)⟩
    obtain ⟨q, bt, q1, q2, q3, q4, q5⟩ := inf.2 (a' + y) (by omega)
    have e20 : A.1 20 (a' + y) = nI q := (hB.1.1.2 20 _ (by omega)).trans q1
    have e117 : B.1 117 (a' + y) = nI q := (hB.2.1.1.2.1 117 _ (by omega)).trans q2
    have hbt : bt = bw w r' := by
      have e := q3.symm.trans (h19 y hy)
      unfold bw
      refine (nI_eq (by omega) ?_).mp e
      split <;> omega
    rw [f20, e20, e117]
    refine ⟨rfl, fun x hx => ?_⟩
    rw [nI_add]
    obtain ⟨⟨g, hg, h66⟩, -⟩ := hB.2.2.1.2.1.1
    exact VC_in b65 inf.1 ⟨g, by omega, h66⟩ (by omega)
theorem EN_def (hw1 : 1 ≤ w) (h : EN w Av S 0 0 0 0 A B) (g11 : S.1 11 e = 4) (f20 : A'.1 20 = A.1 20) (f58 : A'.1 58 = A.1 58) (l2 : A'.2 = A.2) : EN w (adA Av e a) S 0 0 0 0 A' B := fun e' a' r' z' h1 h2 h3 h4 h5 => by
  rcases h1 with h1 | ⟨rfl, rfl⟩
  · exact EN_row hw1 h f20 f58 l2 e' a' r' z' h1 h2 h3 h4 h5
  · exact ⟨fun q => absurd (g11.symm.trans q) (by decide), fun q => absurd (g11.symm.trans q) (by decide), fun q => absurd (g11.symm.trans q) (by decide), fun q => absurd (g11.symm.trans q) (by decide)⟩
theorem VLk_aq (h : VLk w nv vb vq vt Av S) (g11 : ¬ S.1 11 e = 1) : VLk w nv vb vq vt (adA Av e a) S := fun e' a' r z h1 h2 => by
  rcases h1 with h1 | ⟨rfl, rfl⟩
  · exact h e' a' r z h1 h2
  · exact absurd h2 g11
/-- the whole PROGRAM is built alike -/
theorem pg_all (hg : ip_gk (lg_tbl, vwCl, Gr)) (ho : ip_old (lg_tbl, vwCl, Gr)) (hw1 : 1 ≤ w) (hw : w ≤ 32) (cx : CTX S T N M) (hD : D ≤ 800) (nu : ∀ x, x ≤ N → ur S x ≤ 30) (inf : INF iwF iwb S T) : ∀ k Av vw iw i j p, aP n w D S T (hxI S) k Av vw iw i j p → i ≤ N → j ≤ M → p ≤ 4000 → iw ≤ iwF → ∃ (nv : Nat) (vb vq vt : Nat → Nat) (no : Nat) (bo : Nat → Nat) (nd : Nat), (VLc w nv vb vq vt Av S ∧ AvO S Av 0 ∧ DEn w D N M S T nd Av p ∧ ∀ e a, Av e a → S.1 11 e = 2 → a < j) ∧ (14 * nd ≤ p ∧ 9 * no ≤ p ∧ vw ≤ 256) ∧ ∀ st A B0, PGZ w (fun _ _ => False) S T 0 0 0 (fun _ => 0) (fun _ => 0) (fun _ => 0) 0 (fun _ => 0) iwb st A B0 → TRq l Gr n w d (PGZ w (fun _ _ => False) S T 0 0 0 (fun _ => 0) (fun _ => 0) (fun _ => 0) 0 (fun _ => 0) iwb) (PGZ w Av S T i vw nv vb vq vt no bo iwb) k 0 j st A
  | 0, Av, vw, iw, i, j, p, h, _, _, _, _ => by
    obtain ⟨e1, e2, e3, e4, e5⟩ := h
    subst e1 e2 e4 e5
    exact ⟨0, fun _ => 0, fun _ => 0, fun _ => 0, 0, fun _ => 0, 0, ⟨fun t ht => absurd ht (Nat.not_lt_zero t), fun _ _ q => q.elim, fun _ _ q => q.elim, fun _ _ q => q.elim⟩, ⟨by omega, by omega, by omega⟩, fun st A B0 h0 => ⟨0, A, CGo_rfl, ⟨fun _ _ _ _ _ => rfl, fun _ _ _ => rfl⟩, Or.inl ⟨st, Nat.le_refl _, by omega, fun B hB => ⟨B, MGo_rfl, hB, ⟨fun _ _ _ _ _ => rfl, fun _ _ _ => rfl⟩⟩⟩⟩⟩
  | k + 1, Av, vw, iw, i, j, p, h, hi, hj, hp, hiw => by
    obtain ⟨i0, j0, iw0, vw0, A0, p0, h0, h1, hpp, hx, ⟨ln1, ln2⟩, e3z, e3b⟩ := h
    have bd := aJ_bnd h1
    have hN := cx.2.1
    have hM := cx.2.2.2
    have hiw0 : iw0 ≤ iw := by
      rcases h1 with ⟨-, ei⟩ | ⟨h1, -⟩ | ⟨-, ei, -⟩ | ⟨-, -, ei, -⟩
      · omega
      · obtain ⟨e, r, z, o, -, -, -, -, -, -, -, -, q9, -⟩ := h1
        omega
      · omega
      · omega
    obtain ⟨nv, vb, vq, vt, no, bo, nd, ⟨c1, a1, d1, k1⟩, ⟨b1, b2, b3⟩, T1⟩ := pg_all hg ho hw1 hw cx hD nu inf k A0 vw0 iw0 i0 j0 p0 h0 (by omega) (by omega) (by omega) (by omega)
    have bx : BCX D N M nd S T i0 i p0 p := ⟨cx, hD, nu, by omega, fun x q1 q2 => (hx.2.2.2.1 x q1 q2).2, hp, by omega, hi, e3b⟩
    have hu0 : HU S i0 i0 0 0 0 := ⟨Nat.le_refl _, by rw [hs_le _ (Nat.le_refl _)]; rfl, by rw [hs_le _ (Nat.le_refl _)]; rfl⟩
    have keep : ∀ B B' : zS, KBm B B' → B.1 73 65 = nI iwb → B'.1 73 65 = nI iwb := fun B B' k q => (k.1 73 65 (by omega) (by omega) (by omega)).trans q
    rcases h1 with ⟨h1, ei⟩ | ⟨h1, ev⟩ | ⟨h1, ei, ev⟩ | ⟨h1, eA, ei, ev⟩
    · obtain ⟨nn, h1⟩ := h1
      obtain ⟨nv2, vb2, vq2, vt2, n2, x2, ⟨v2, v2'⟩, s2, w2, ⟨c2, a2, d2, k2⟩, u2, T2⟩ := sq_all (l := l) (Gr := Gr) (n := n) (d := d) hg ho hw1 hw bx nn 0 256 vw0 vw A0 Av p0 i0 i j0 j nv vb vq vt 0 0 0 no bo h1 a1 d1 k1 c1 hu0 (Nat.le_refl _) (Nat.le_refl _) hj (Nat.le_refl _) b3 (Nat.le_refl _)
      refine ⟨nv2, vb2, vq2, vt2, no, bo, nd, ⟨c2, a2, DEn_p d2 (by omega), k2⟩, ⟨by omega, by omega, v2' b3⟩, fun st A B0 h0 => ?_⟩
      exact TRq_le (TRq_seq (c2 := 0) h0 (T1 st A B0 h0) (fun st A B h => h.1.1.2.2.2.1) (fun A1 B1 st1 z1 => TRq_kp (P := fun B => B.1 73 65 = nI iwb) (z_q (T2 (fun _ => False) (fun _ _ _ _ _ _ _ _ _ _ _ _ _ _ h => h) st1 A1 B1 z1.1) (fun _ _ _ _ f => f.2.2.2)) keep)) (by omega)
    · obtain ⟨e, r, z, o, q1, q2, q3, q4, q5, q6, q7, q8, q9, q10, q11, q12, e1, e2, f1, t1, t2, t3, t4, q13⟩ := h1
      subst q12 e1 e2 ev
      refine ⟨nv, vb, vq, vt, no, bo, nd, ⟨VLc_mo c1 (fun _ _ q => Or.inl q), fun e' a q => ?_, DEn_p (DEn_sub d1 (fun e' a q y => ?_)) (by omega), fun e' a q y => ?_⟩, ⟨by omega, by omega, b3⟩, fun st A B0 h0 => ?_⟩
      · rcases q with q | ⟨rfl, rfl⟩
        · exact a1 e' a q
        · exact ⟨fun q => absurd (q2.symm.trans q) (by decide), Or.inl q2, fun q => absurd (q2.symm.trans q) (by decide)⟩
      · rcases q with q | ⟨rfl, rfl⟩
        · exact q
        · exact absurd (q2.symm.trans y) (by decide)
      · rcases q with q | ⟨rfl, rfl⟩
        · have := k1 e' a q y
          omega
        · exact absurd (q2.symm.trans y) (by decide)
      · refine TRq_seq h0 (T1 st A B0 h0) (fun st A B h => h.1.1.2.2.2.1) (fun A1 B1 st1 z1 => ?_)
        refine y_go (z := 2) hg ho hw cx z1 f1 (by omega) (by omega) rfl (zMv_imp (st_nk (d := d + 4) (by omega) (by omega) hg) (fun X e => Or.inr ⟨e, rfl⟩)) (fun B hB => ?_) (by omega) (fun A' B hB b65 f20 f58 l2 => EN_inp hw1 hw inf hB b65 q2 q3 q4 q6 q7 (by omega) (by omega) (fun y hy => (q13 (iw0 + y) (by omega) (by omega)).2) f20 f58 l2) (VLk_aq z1.1.2.2.2.2.1 (by rw [q2]; decide))
        have mT : ∀ c k, (78 ≤ c ∧ c ≤ 81) ∨ c = 89 ∨ (102 ≤ c ∧ c ≤ 107) ∨ c = 117 → B.1 c k = T.1 c k := hB.2.1.1.2.1
        exact MGo_tr (mg_s (z := 22) hg (by omega) hM (hB.2.1.1.1.trans cx.2.2.1) (YB_7 hB) ((mT 78 j0 (by omega)).trans t1) (by omega) (by omega) (ms_nn (z := 22) (d := d + 5) (by omega) ((mT 78 j0 (by omega)).trans t1) (by omega))) (mg_s (z := 23) hg (by omega) hM (hB.2.1.1.1.trans cx.2.2.1) (YB_7 hB) ((mT 78 _ (by omega)).trans t2) (by omega) (by omega) (ms_nn (z := 23) (d := d + 5) (by omega) ((mT 78 _ (by omega)).trans t2) (by omega)))
    · obtain ⟨e, r, k', i1, j1, q1, q2, q3, q4, q5, q6, q7, q8, hxx, q9, q10, e1, e2, f1, f2, f3, t1, t2, t3, t4, t5⟩ := h1
      have bxx := aX_bnd hxx
      subst q10 e1 e2 ev
      have h14 := ln1 f1
      have hb : HU S i0 (i0 + 1 + k') 0 0 0 := HU_par (HU_e (HU_1 hu0 f1 (by decide : E2 (3 : Int32).toInt = 0)) (by omega)) k' (fun a ha => (q8 a ha).2.2.2.2.1)
      refine ⟨nv, vb, vq, vt, no, bo, nd + 1, ⟨VLc_mo c1 (fun _ _ q => Or.inl q), fun e' a q => ?_, fun e' a q y => ?_, fun e' a q y => ?_⟩, ⟨by omega, by omega, b3⟩, fun st A B0 h0 => ?_⟩
      · rcases q with q | ⟨rfl, rfl⟩
        · exact a1 e' a q
        · exact ⟨fun q => absurd (q2.symm.trans q) (by decide), Or.inr (Or.inr q5), fun q => absurd (q2.symm.trans q) (by decide)⟩
      · rcases q with q | ⟨rfl, rfl⟩
        · exact DEn_p (DEn_up d1) (by omega) e' a q y
        · refine ⟨A0, r, k', i0 + 1 + k', i1, j1, p0, p, ⟨q1, q4, q3, q5, q6, q7, fun c hc => ⟨(q8 c hc).1, (q8 c hc).2.1, (q8 c hc).2.2.2.1⟩⟩, by rw [show a + k' + 2 = a + 2 + k' by omega]; exact hxx, ⟨f3, t5, t2, by omega, by omega, by omega, by omega, Nat.le_refl _⟩, fun x z1 z2 => ?_, d1⟩
          have := (hx.2.2.2.1 x (by omega) (by omega)).2
          rw [hs_add (m := i0 + 1 + k') (by omega) x z1, hb.2.1] at this
          omega
      · rcases q with q | ⟨rfl, rfl⟩
        · have := k1 e' a q y
          omega
        · exact absurd (q2.symm.trans y) (by decide)
      · refine TRq_seq h0 (T1 st A B0 h0) (fun st A B h => h.1.1.2.2.2.1) (fun A1 B1 st1 z1 => ?_)
        refine y_go (z := 3) hg ho hw cx z1 f1 (by omega) (by omega) rfl (zMv_imp (w_st3 (d := d + 4) (p := i1 + 1) (by omega) (by rw [zi_c (by decide), z1.1.1.1.1.2 7 i0 (by omega)]; exact f2)) (fun X e => Or.inl e)) (fun B hB => ?_) (by omega) (fun A' B hB b65 f20 f58 l2 => EN_def hw1 hB.2.2.2.2 q2 f20 f58 l2) (VLk_aq z1.1.2.2.2.2.1 (by rw [q2]; decide))
        have mT : ∀ c k, (78 ≤ c ∧ c ≤ 81) ∨ c = 89 ∨ (102 ≤ c ∧ c ≤ 107) ∨ c = 117 → B.1 c k = T.1 c k := hB.2.1.1.2.1
        exact mg_s (z := 26) hg (by omega) hM (hB.2.1.1.1.trans cx.2.2.1) (YB_7 hB) ((mT 78 j0 (by omega)).trans t1) (by omega) (by omega) (ms_26 (d := d + 5) (by omega) ((mT 78 j0 (by omega)).trans t1) ((hB.2.1.1.2.2 j0).trans t3))
    · subst eA ev
      have an := h1
      obtain ⟨r, i1, j1, hr, hxx, e1, e2, f1, f2, f3, -⟩ := h1
      have bxx := aX_bnd hxx
      have h9 := ln2 (by rw [e1, Nat.add_sub_cancel]; exact f3)
      have h2 : HU S i0 (i0 + 1) 0 0 0 := HU_e (HU_1 hu0 f1 (by decide : E2 (1 : Int32).toInt = 0)) (by omega)
      obtain ⟨m, hm, T2⟩ := y_out (l := l) (Gr := Gr) (n := n) (d := d) (Cx := fun _ => False) (lo := 0) (hi := 256) (vw := vw) (nv := nv) (vb := vb) (vq := vq) (vt := vt) (u := 0) (sd := 0) (no := no) (bo := bo) (hc := 0) hg ho hw1 hw cx nu an (by omega) (by omega) hi hj (by omega)
      refine ⟨nv, vb, vq, vt, no + 1, boN bo no m, nd, ⟨c1, a1, DEn_p d1 (by omega), fun e' a q y => by have := k1 e' a q y; omega⟩, ⟨by omega, by omega, b3⟩, fun st A B0 h0 => ?_⟩
      exact TRq_le (TRq_seq (c2 := 0) h0 (T1 st A B0 h0) (fun st A B h => h.1.1.2.2.2.1) (fun A1 B1 st1 z1 => TRq_kp (P := fun B => B.1 73 65 = nI iwb) (z_q (T2 st1 A1 B1 z1.1 (fun r i1 j1 hx hi1 hj1 A1 B1 st1 x1 => ex_st (tt := 0) hg ho hw1 hw bx a1 d1 h2 (by omega) hx (by omega) (by omega) (by omega) x1)) (fun _ _ _ _ f => f.2.2.2)) keep)) (by omega)
end PGA
