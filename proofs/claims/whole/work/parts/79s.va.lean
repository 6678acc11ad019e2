/-! var NAME : TYPE [= EXPR] ; -/
section VA
variable {l : Launch} {Gr : zG} {n w : Nat} {d : Nat} {b : Nat → Int32} {t p i ws dp p' i' q j m N X u k D D' vw iw s e : Nat} {S S' S'' T T' T'' : zS}
theorem CS_v {v : Int32} (h : CS b t p i ws S) : CS b t p i ws (zi S 34 10 v) := by
  obtain ⟨h1, h2, h3, h4, h5, h6, h7, h8, h9⟩ := h
  exact ⟨by rw [zi_row (by decide)]; exact h1, by rw [zi_c (by decide)]; exact h2, by rw [zi_c (by decide)]; exact h3, by rw [zi_c (by decide)]; exact h4, by rw [zi_c (by decide)]; exact h5, by rw [zi_c (by decide)]; exact h6, by rw [zi_c (by decide)]; exact h7, by rw [zi_k (by decide)]; exact h8, h9⟩
theorem CS_nA {D0 : Nat} {x1 x2 x3 x4 x5 x6 : Int32} (h : CS b t p i ws S) : CS b t p i ws (nA S D0 x1 x2 x3 x4 x5 x6) :=
  CS_o (CS_o (CS_o (CS_o (CS_o (CS_o (CS_o (CS_o h (by omega)) (by omega)) (by omega)) (by omega)) (by omega)) (by omega)) (by omega)) (by omega)
theorem nA_r {D0 : Nat} {x1 x2 x3 x4 x5 x6 : Int32} : (nA S D0 x1 x2 x3 x4 x5 x6).1 9 D0 = x2 ∧ (nA S D0 x1 x2 x3 x4 x5 x6).1 11 D0 = x1 ∧ (nA S D0 x1 x2 x3 x4 x5 x6).1 12 D0 = x4 ∧ (nA S D0 x1 x2 x3 x4 x5 x6).1 13 D0 = x5 ∧ (nA S D0 x1 x2 x3 x4 x5 x6).1 14 D0 = x6 ∧ (nA S D0 x1 x2 x3 x4 x5 x6).1 8 9 = nI (D0 + 1) ∧ (nA S D0 x1 x2 x3 x4 x5 x6).1 15 D0 = 0 ∧ (nA S D0 x1 x2 x3 x4 x5 x6).1 10 D0 = x3 := by
  unfold nA
  refine ⟨?_, ?_, ?_, ?_, ?_, zi_v, ?_, ?_⟩
  · rw [zi_c (by decide), zi_c (by decide), zi_c (by decide), zi_c (by decide), zi_c (by decide), zi_c (by decide), zi_c (by decide)]; exact zi_v
  · rw [zi_c (by decide), zi_c (by decide), zi_c (by decide), zi_c (by decide), zi_c (by decide)]; exact zi_v
  · rw [zi_c (by decide), zi_c (by decide), zi_c (by decide), zi_c (by decide)]; exact zi_v
  · rw [zi_c (by decide), zi_c (by decide), zi_c (by decide)]; exact zi_v
  · rw [zi_c (by decide), zi_c (by decide)]; exact zi_v
  · rw [zi_c (by decide)]; exact zi_v
  · rw [zi_c (by decide), zi_c (by decide), zi_c (by decide), zi_c (by decide), zi_c (by decide), zi_c (by decide)]; exact zi_v
theorem nA_c {D0 c a : Nat} {x1 x2 x3 x4 x5 x6 : Int32} (h : ¬ (9 ≤ c ∧ c ≤ 15)) (h8 : ¬ (c = 8 ∧ a = 9)) : (nA S D0 x1 x2 x3 x4 x5 x6).1 c a = S.1 c a := by
  unfold nA
  rw [zi_get, if_neg h8, zi_c (by omega), zi_c (by omega), zi_c (by omega), zi_c (by omega), zi_c (by omega), zi_c (by omega), zi_c (by omega)]
abbrev vL (p : Nat) : zL := [some (.ref 105), some (.int (nI p)), none, none, none, none, none, none, none]
theorem vs_1 (hg : ip_gk (lg_tbl, vwCl, Gr)) (htx : ∀ k, k < t → tx (b k)) (h : HS b t q j dp N vw iw p T) (hk : tk b t p = 202) : ∃ T1, MC b t (np b t p) (j + 1) dp 0 N T1 ∧ MK b t T T1 j 0 ∧ nb b t N (np b t p) ∧ p + 3 ≤ np b t p ∧ j + 2 * dp ≤ 3 * p ∧ T1.1 78 j = 20 ∧ T1.1 81 j = nI p ∧
    (∀ Q, zW l Gr (zc n w) 168 M_Mo_varStatement (d + 13) 24 (vL p) [] T1 Q → zW l Gr (zc n w) 168 M_Mo_varStatement (d + 13) 0 (vL p) [] (zi T 73 6 (nI p)) Q) := by
  have h1 := MC_p h.1.1 h.2.1
  have hp := MC_p2 h1
  have ht := MC_t h1
  have hpt : p < t := tk_pos (by rw [hk]; decide)
  have hqp : q ≤ p := by rw [← h.2.1]; exact gp_ge (MC_p2 h.1.1)
  obtain ⟨b1, -, b3⟩ := h.2.2
  have e3 : te b t p = p + 3 := te_w htx hp (K := kw2) (c := 202) (fun s => wk_2) (by decide) (by decide) hk
  have hnp := np_ok (b := b) hp
  rw [e3] at hnp
  have M2 : MC b t p (j + 1) dp 0 N (mP (zi T 73 6 (nI p)) j 20 0 0 (nI p)) := MC_mP h1
  have M3 : MC b t (p + 3) (j + 1) dp 0 N (zi (mP (zi T 73 6 (nI p)) j 20 0 0 (nI p)) 73 6 (nI (p + 3))) := MC_at M2 (by omega)
  have r := mP_r (T := zi T 73 6 (nI p)) (j0 := j) (x1 := 20) (x2 := 0) (x3 := 0) (x4 := nI p)
  refine ⟨zi (zi (mP (zi T 73 6 (nI p)) j 20 0 0 (nI p)) 73 6 (nI (p + 3))) 73 6 (nI (np b t p)), MC_at M3 hnp.2.2, MK_tr (MK_tr (MK_tr (MK_zi (by omega)) (MK_mP (Nat.le_refl _))) (MK_zi (by omega))) (MK_zi (by omega)), nb_le b3 (by omega), hnp.2.1, by omega, by rw [zi_c (by decide), zi_c (by decide)]; exact r.1, by rw [zi_c (by decide), zi_c (by decide)]; exact r.2.2.2, fun Q kk => ?_⟩
  refine b_Mo_varStatement_0 hg (wm_put (MC_13 h1) (by omega)) (fun a A hv => ?_)
  rw [hv.2]
  refine b_Mo_varStatement_9 (R := fun A => A = zi (zi (mP (zi T 73 6 (nI p)) j 20 0 0 (nI p)) 73 6 (nI (p + 3))) 73 6 (nI (np b t p))) hg ?_ (fun A eA => by rw [eA]; exact kk)
  rw [MC_6 M2, show nI p + 3 = nI (p + 3) from nI_add p 3]
  have := wm_gap (l := l) (Gr := Gr) (n := n) (w := w) (d := d + 11) hg M3.1
  rw [show gp b t (p + 3) = np b t p from by rw [np, e3]] at this
  exact this
/-- the end of varStatement, from put(VAR ..) on -/
theorem vs_5 (hg : ip_gk (lg_tbl, vwCl, Gr)) (htx : ∀ k, k < t → tx (b k)) {Y : zS} {q6 j6 p6 N6 v r z p1 : Nat} {has : Bool} (M : MC b t q6 j6 dp 0 N6 Y) (g6 : gp b t q6 = p6) (hj : j6 + 2 < 12000) (hz : z ≤ 64) (h30 : Y.1 73 30 = nI vw) : ∃ Z, MC b t q6 (j6 + 1) dp 0 N6 Z ∧ PK b t Y Z j6 k ∧ Z.1 73 26 = Y.1 73 26 ∧ Z.1 73 29 = Y.1 73 29 ∧ Z.1 73 30 = nI (vw + max 1 z) ∧ (Z.1 78 j6 = 25 ∧ Z.1 79 j6 = nI v ∧ Z.1 80 j6 = nI r ∧ Z.1 89 j6 = nI vw ∧ Z.2 82 j6 = lN ((if has then 65536 else 0) + 256 * z)) ∧
    (∀ Q, (tk b t p6 = 59 → zW l Gr (zc n w) 168 M_Mo_varStatement (d + 13) 239 (vL p) [] (zi Z 73 6 (nI (p6 + 1))) Q) → (¬ tk b t p6 = 59 → zW l Gr (zc n w) 168 M_Mo_varStatement (d + 13) 239 (vL p) [] (mF (zi Z 73 6 (nI p6)) 1 (nI p6)) Q) → zW l Gr (zc n w) 168 M_Mo_varStatement (d + 13) 166 [some (.ref 105), some (.int (nI p)), none, some (.int (nI p1)), some (.int (nI v)), some (.int (nI (max 1 z))), some (.int (nI r)), some (.int (nI z)), some (.int (if has then 1 else 0))] [] Y Q) := by
  have M1 : MC b t q6 (j6 + 1) dp 0 N6 (mP Y j6 25 (nI v) (nI r) (nI p1)) := MC_mP M
  have rr := mP_r (T := Y) (j0 := j6) (x1 := 25) (x2 := nI v) (x3 := nI r) (x4 := nI p1)
  obtain ⟨A, eA⟩ : ∃ A, A = mP Y j6 25 (nI v) (nI r) (nI p1) := ⟨_, rfl⟩
  rw [← eA] at M1 rr
  have a30 : A.1 73 30 = nI vw := by rw [eA, mP_k (by decide)]; exact h30
  obtain ⟨B, eB⟩ : ∃ B, B = zj A 82 j6 (lN ((if has then 65536 else 0) + 256 * z)) := ⟨_, rfl⟩
  have b1 : ∀ c a, B.1 c a = A.1 c a := fun c a => by rw [eB]; rfl
  obtain ⟨Z, eZ⟩ : ∃ Z, Z = zi (zi (zi B 80 j6 (nI r)) 89 j6 (nI vw)) 73 30 (nI (vw + max 1 z)) := ⟨_, rfl⟩
  have MZ : MC b t q6 (j6 + 1) dp 0 N6 Z := by rw [eZ, eB]; exact MC_x (MC_o (MC_o (MC_zj M1) (by omega)) (by omega)) (by omega)
  have zk : ∀ a, a ≠ 30 → Z.1 73 a = A.1 73 a := fun a ha => by rw [eZ, zi_k ha, zi_c (by decide), zi_c (by decide), b1]
  refine ⟨Z, MZ, ?_, ?_, ?_, ?_, ⟨?_, ?_, ?_, ?_, ?_⟩, fun Q ky kn => ?_⟩
  · rw [eZ, eB, eA]
    exact PK_tr (PK_tr (PK_tr (PK_tr (PK_mP (Nat.le_refl _)) (PK_zj (by omega))) (PK_zi (by omega))) (PK_zi (by omega))) (PK_zi (by omega))
  · rw [zk 26 (by decide), eA, mP_k (by decide)]
  · rw [zk 29 (by decide), eA, mP_k (by decide)]
  · rw [eZ]; exact zi_v
  · rw [eZ, zi_c (by decide), zi_c (by decide), zi_c (by decide), b1]; exact rr.1
  · rw [eZ, zi_c (by decide), zi_c (by decide), zi_c (by decide), b1]; exact rr.2.1
  · rw [eZ, zi_c (by decide), zi_c (by decide)]; exact zi_v
  · rw [eZ, zi_c (by decide)]; exact zi_v
  · rw [eZ]
    show B.2 82 j6 = _
    rw [eB, zj_get, if_pos ⟨rfl, rfl⟩]
  · refine b_Mo_varStatement_166 hg (wm_put (MC_13 M) (by omega)) (fun a A' hv => ?_)
    rw [hv.1, hv.2, ← eA]
    have fin : ∀ s0 : Int64, s0 + 256 * (nI z).toInt64 = lN ((if has then 65536 else 0) + 256 * z) → zW l Gr (zc n w) 168 M_Mo_varStatement (d + 13) 195 [some (.ref 105), some (.int (nI p)), some (.int (nI j6)), none, none, some (.int (nI (max 1 z))), some (.int (nI r)), some (.int (nI z)), none] [.long s0, .int (nI j6), .ref 114] A Q := fun s0 es => by
      have hin : vp_in (nI j6) 12000 := vp_in_nI (by omega) (by omega)
      have eq : zi (zi (zi (zj A 82 ((nI j6).toNatClampNeg) (s0 + 256 * (nI z).toInt64)) 80 ((nI j6).toNatClampNeg) (nI r)) 89 ((nI j6).toNatClampNeg) (A.1 73 30)) 73 30 (A.1 73 30 + nI (max 1 z)) = Z := by
        rw [nI_clamp (by omega), es, a30, nI_add, eZ, eB]
      by_cases y : tk b t p6 = 59
      · refine b_Mo_varStatement_195 (R := fun A => A = zi Z 73 6 (nI (p6 + 1))) hg hin hin ?_ (fun A eA => by rw [eA]; exact ky y)
        rw [eq]
        exact wm_sg hg htx (by decide) (by decide) (by decide) MZ.1 g6 y
      · refine b_Mo_varStatement_195 (R := fun A => A = mF (zi Z 73 6 (nI p6)) 1 (nI p6)) hg hin hin ?_ (fun A eA => by rw [eA]; exact kn y)
        rw [eq]
        exact wm_sgF hg htx (by decide) (by decide) (by decide) MZ.1 g6 (MC_f MZ) y
    have e0 : (256 : Int64) * (nI z).toInt64 = lN (256 * z) := by rw [nI_l (by omega)]; exact lN_mul 256 z
    cases has with
    | true =>
      refine b_Mo_varStatement_177 (fun y => absurd y (by decide)) (fun _ => b_Mo_varStatement_188 (fin 65536 ?_))
      rw [e0]
      exact lN_add 65536 (256 * z)
    | false =>
      refine b_Mo_varStatement_177 (fun _ => b_Mo_varStatement_194 (fin 0 ?_)) (fun y => absurd rfl y)
      rw [e0]
      exact lN_add 0 (256 * z)
/-- the reference up to =, with the var's kind -/
def VP (l : Launch) (Gr : zG) (n w d : Nat) (b : Nat → Int32) (t p p1 p4 r z dp vw : Nat) : Prop := ∀ T q j N iw, HS b t q j dp N vw iw p T → ∃ v T5 N5, nid b t T5 v p1 ∧ MC b t p4 (j + 2) dp 0 N5 T5 ∧ PK b t T T5 j dp ∧ P3 T T5 ∧ nb b t N5 p4 ∧ j + 2 * dp + 24 ≤ 3 * p4 ∧ (T5.1 78 j = 20 ∧ T5.1 81 j = nI p ∧ T5.1 78 (j + 1) = 24 ∧ T5.1 79 (j + 1) = nI v ∧ T5.1 81 (j + 1) = nI p1) ∧
  (∀ Q, zW l Gr (zc n w) 168 M_Mo_varStatement (d + 13) 131 [some (.ref 105), some (.int (nI p)), none, some (.int (nI p1)), some (.int (nI v)), some (.int (nI (max 1 z))), some (.int (nI r)), some (.int (nI z)), none] [] T5 Q → zW l Gr (zc n w) 168 M_Mo_varStatement (d + 13) 0 (vL p) [] (zi T 73 6 (nI p)) Q)
end VA
