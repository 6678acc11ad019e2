/-! SORTS of one EXPR on both sides: operators between two -/
def bchk (o r1 r2 p1 p2 : Nat) : Bool := o == 0 || (decide (kFits (nI (r1 + 2 * p1)) (nI (r2 + 2 * p2)) (nI (37 + o))) == decide (mFits (nI r1) (nI r2) (nI o)) && (!decide (mFits (nI r1) (nI r2) (nI o)) || (decide (((if ¬ nI (37 + o) < 43 ∧ ¬ 48 < nI (37 + o) then 1 else nI (r1 + 2 * p1) &&& 1) ||| (nI (r1 + 2 * p1) &&& nI (r2 + 2 * p2) &&& 2)) = nI ((if 6 ≤ o ∧ o ≤ 11 then 1 else r1) + 2 * (p1 * p2))) && decide ((if (¬ nI o < 6 ∧ nI o ≤ 11) ∨ mBits (nI o) then 1 else nI r1) = nI (if 6 ≤ o ∧ o ≤ 11 then 1 else r1)))) && decide (nI (37 + o) = 49 ∨ nI (37 + o) = 50) == decide (nI o = 12 ∨ nI o = 13))
theorem bchk_all : ((List.range 19).all fun o => (List.range 2).all fun r1 => (List.range 2).all fun r2 => (List.range 2).all fun p1 => (List.range 2).all fun p2 => bchk o r1 r2 p1 p2) = true := by decide +kernel
theorem bchk_of {o r1 r2 p1 p2 : Nat} (h0 : o ≤ 18) (h1 : r1 ≤ 1) (h2 : r2 ≤ 1) (h3 : p1 ≤ 1) (h4 : p2 ≤ 1) : bchk o r1 r2 p1 p2 = true := by
  have a := List.all_eq_true.mp bchk_all o (List.mem_range.mpr (by omega))
  have a := List.all_eq_true.mp a r1 (List.mem_range.mpr (by omega))
  have a := List.all_eq_true.mp a r2 (List.mem_range.mpr (by omega))
  have a := List.all_eq_true.mp a p1 (List.mem_range.mpr (by omega))
  exact List.all_eq_true.mp a p2 (List.mem_range.mpr (by omega))
theorem bin_f {o r1 r2 p1 p2 : Nat} (ho : 1 ≤ o) (h0 : o ≤ 18) (h1 : r1 ≤ 1) (h2 : r2 ≤ 1) (h3 : p1 ≤ 1) (h4 : p2 ≤ 1) : (kFits (nI (r1 + 2 * p1)) (nI (r2 + 2 * p2)) (nI (37 + o)) ↔ mFits (nI r1) (nI r2) (nI o)) ∧ (mFits (nI r1) (nI r2) (nI o) → ((if ¬ nI (37 + o) < 43 ∧ ¬ 48 < nI (37 + o) then 1 else nI (r1 + 2 * p1) &&& 1) ||| (nI (r1 + 2 * p1) &&& nI (r2 + 2 * p2) &&& 2)) = nI ((if 6 ≤ o ∧ o ≤ 11 then 1 else r1) + 2 * (p1 * p2)) ∧ (if (¬ nI o < 6 ∧ nI o ≤ 11) ∨ mBits (nI o) then 1 else nI r1) = nI (if 6 ≤ o ∧ o ≤ 11 then 1 else r1)) ∧ ((nI (37 + o) = 49 ∨ nI (37 + o) = 50) ↔ (nI o = 12 ∨ nI o = 13)) := by
  have h := bchk_of (o := o) h0 h1 h2 h3 h4
  unfold bchk at h
  rw [Bool.or_eq_true, Bool.and_eq_true, Bool.and_eq_true] at h
  rcases h with h | ⟨⟨a1, a2⟩, a3⟩
  · exact absurd (beq_iff_eq.mp h) (by omega)
  · refine ⟨decide_eq_decide.mp (beq_iff_eq.mp a1), fun hm => ?_, decide_eq_decide.mp (beq_iff_eq.mp a3)⟩
    rw [decide_eq_true hm, Bool.not_true, Bool.false_or, Bool.and_eq_true] at a2
    exact ⟨of_decide_eq_true a2.1, of_decide_eq_true a2.2⟩
def bchk2 (o r1 r2 : Nat) : Bool := o == 0 || !decide (mFits (nI r1) (nI r2) (nI o)) || (r1 == r2 && (decide (2 < o) || r1 == 1) && (decide (o < 8) || r1 == 0))
theorem bchk2_all : ((List.range 19).all fun o => (List.range 2).all fun r1 => (List.range 2).all fun r2 => bchk2 o r1 r2) = true := by decide +kernel
theorem bin_g {o r1 r2 : Nat} (ho : 1 ≤ o) (h0 : o ≤ 18) (h1 : r1 ≤ 1) (h2 : r2 ≤ 1) (hm : mFits (nI r1) (nI r2) (nI o)) : r1 = r2 ∧ (o ≤ 2 → r1 = 1) ∧ (8 ≤ o → r1 = 0) := by
  have a := List.all_eq_true.mp bchk2_all o (List.mem_range.mpr (by omega))
  have a := List.all_eq_true.mp a r1 (List.mem_range.mpr (by omega))
  have a := List.all_eq_true.mp a r2 (List.mem_range.mpr (by omega))
  unfold bchk2 at a
  rw [decide_eq_true hm, Bool.not_true, Bool.or_false, Bool.or_eq_true, Bool.and_eq_true, Bool.and_eq_true, Bool.or_eq_true, Bool.or_eq_true] at a
  rcases a with a | ⟨⟨a1, a2⟩, a3⟩
  · exact absurd (beq_iff_eq.mp a) (by omega)
  · refine ⟨beq_iff_eq.mp a1, fun y => a2.elim (fun q => absurd (of_decide_eq_true q) (by omega)) (fun q => beq_iff_eq.mp q), fun y => a3.elim (fun q => absurd (of_decide_eq_true q) (by omega)) (fun q => beq_iff_eq.mp q)⟩
theorem pub_f {p1 p2 : Nat} (h1 : p1 ≤ 1) (h2 : p2 ≤ 1) : (if nI p1 = 0 ∨ nI p2 = 0 then (0 : Int32) else 1) = nI (p1 * p2) := by
  have a : p1 = 0 ∨ p1 = 1 := by omega
  have e : p2 = 0 ∨ p2 = 1 := by omega
  rcases a with a | a <;> rcases e with e | e <;> subst a <;> subst e <;> decide
section LB
variable {l : Launch} {Gr : zG} {n w : Nat} {d : Nat} {A : Nat → Nat → Prop} {b : Nat → Int32} {t N D m f tp mp c sz mz p p2 i i' i1 i2 j j' j1 j2 x o a : Nat} {S S' S'' S1 S2 T T' T'' T1 T2 : zS}
/-- behind both EXPRs -/
theorem ex_op (hg : ip_gk (lg_tbl, vwCl, Gr)) (h : LX b t N D m f A (tp + 2) (mp + 2) c sz mz S T) (htp : tp + 1 < 372) (hmp : mp + 1 < 4200) (hi : i < sz) (hj : j < mz) (o1 : 1 ≤ o) (o2 : o ≤ 18) (s4 : S.1 4 i = nI (37 + o)) (s6 : S.1 6 i = nI a) (s7 : S.1 7 i = nI p2) (t2 : T.1 78 j = 13) (t3 : T.1 79 j = nI o) (t4 : T.1 81 j = nI a) {i0 j0 : Nat} (q1 : PT w D A S T tp mp p i0 i1 j0 j1) (q2 : PT w D A S T (tp + 1) (mp + 1) p2 i1 i j1 j) : (∃ S' T', CG l Gr n w d S i S' (i + 1) ∧ S' = kS b t S i ∧ RG l Gr n w d T j T' (j + 1) ∧ LX b t N D m f A (tp + 1) (mp + 1) c sz mz S' T' ∧ KKc S S' i (i + 1) tp ∧ KKm T T' j (j + 1) mp c ∧ PT w D A S' T' tp mp p i0 (i + 1) j0 (j + 1)) ∨ FLT l Gr n w d b t S T i (i + 1) j := by
  obtain ⟨r1, b1, hr1, hb1, c1, c2, c3, c4, c5, c5p⟩ := q1
  obtain ⟨r2, b2, hr2, hb2, e1, e2, e3, e4, e5, e5p⟩ := q2
  have h3 := h.2.2.1
  have h5 := h.2.1.2.2
  have h7 := h.2.2.2.1.2.2
  have hsz := h.2.1.2.1
  have hmz := h.2.2.2.1.2.1
  obtain ⟨F1, F2, F3⟩ := bin_f (o := o) (r1 := r1) (r2 := r2) (p1 := b1) (p2 := b2) o1 o2 hr1 hr2 hb1 hb2
  have gk := g_op (l := l) (Gr := Gr) (n := n) (w := w) (d := d) (b := b) (t := t) hg (LX_ci h hi) o1 o2 s4 h3 htp
  have rk := r_13 (l := l) (Gr := Gr) (n := n) (w := w) (d := d) hg (LX_ri h hj) t2 h.2.2.2.2.1 hmp
  have p3 : (kPop S).1 39 3 = nI (tp + 1) := kPop_3 h3
  have p4 : (kPop (kPop S)).1 39 3 = nI tp := kPop_3 p3
  have y0 : kTop S = nI (r2 + 2 * b2) := (kTop_t h3 (by omega)).trans e1
  have x0 : kTop (kPop S) = nI (r1 + 2 * b1) := (kTop_t p3 (by omega)).trans ((kPop_c (by omega)).trans c1)
  obtain ⟨X, eX⟩ : ∃ X, X = kPop (kPop S) := ⟨_, rfl⟩
  have kX : ∀ c k, ¬ (c = 39 ∧ k = 3) → X.1 c k = S.1 c k := fun c k hc => by rw [eX, kPop_c hc, kPop_c hc]
  rw [← eX] at p4
  have x5 : X.1 3 5 = 0 := (kX 3 5 (by omega)).trans h5
  have x6 : X.1 6 i = nI a := (kX 6 i (by omega)).trans s6
  have x7 : X.1 7 i = nI p2 := (kX 7 i (by omega)).trans s7
  have eO : kOpr S i (nI (37 + o)) = kPush (zi (kOp3 X i (nI (r1 + 2 * b1)) (nI (r2 + 2 * b2)) (nI (37 + o))) 5 i (nI (r1 + 2 * b1) &&& 1)) ((if ¬ nI (37 + o) < 43 ∧ ¬ 48 < nI (37 + o) then 1 else nI (r1 + 2 * b1) &&& 1) ||| (nI (r1 + 2 * b1) &&& nI (r2 + 2 * b2) &&& 2)) := by
    unfold kOpr
    rw [x0, y0, ← eX]
  rw [c2, e2, t3, t4] at rk
  rw [eO] at gk
  by_cases hf : mFits (nI r1) (nI r2) (nI o)
  · obtain ⟨F4, F5⟩ := F2 hf
    obtain ⟨r', er⟩ : ∃ r', r' = if 6 ≤ o ∧ o ≤ 11 then 1 else r1 := ⟨_, rfl⟩
    have hr' : r' ≤ 1 := by rw [er]; split <;> omega
    rw [← er] at F4 F5
    rw [if_pos hf] at rk
    have eB : mB2 T (mBi T mp j) mp j = zi (zi (zi (zi (mBi T mp j) 80 j (nI r1)) 73 43 (nI (mp + 1))) 100 mp (nI (b1 * b2))) 98 mp (nI r') := by
      unfold mB2
      rw [c2, c3, e3, t3, pub_f hb1 hb2, F5]
    have eK : kOp3 X i (nI (r1 + 2 * b1)) (nI (r2 + 2 * b2)) (nI (37 + o)) = if (nI o = 12 ∨ nI o = 13) then kPub X (nI (r2 + 2 * b2)) (nI p2) else X := by
      unfold kOp3
      rw [if_pos (F1.mpr hf), x7]
      by_cases z : nI o = 12 ∨ nI o = 13
      · rw [if_pos z, if_pos (F3.mpr z)]
      · rw [if_neg z, if_neg (fun q => z (F3.mp q))]
    have eM : mBi T mp j = if (nI o = 12 ∨ nI o = 13) then zi (mPb T (mp + 1)) 106 j (nI p2) else T := by
      unfold mBi
      rw [t3, e4]
    rw [eB] at rk
    rw [eK, F4] at gk
    have pubs : nI (r2 + 2 * b2) &&& 2 = 0 ↔ b2 = 0 := by
      rw [(pt_1 hr2 hb2).2]
      exact ⟨fun q => by have := (nI_eq (a := 2 * b2) (b := 0) (by omega) (by omega)).mp q; omega, fun q => by rw [q]; rfl⟩
    have pubT : T.1 100 (mp + 1) = 0 ↔ b2 = 0 := by
      rw [e3]
      exact nI_eq (a := b2) (b := 0) (by omega) (by omega)
    by_cases bad : (nI o = 12 ∨ nI o = 13) ∧ b2 = 0
    · -- the number of places isn't public
      right
      have k6 : kPub X (nI (r2 + 2 * b2)) (nI p2) = kT X 6 (nI p2) := by unfold kPub; rw [if_pos (pubs.mpr bad.2)]
      have m6 : mPb T (mp + 1) = mF T 6 (nI p2) := by unfold mPb; rw [if_pos ⟨h7, pubT.mpr bad.2⟩, e4]
      rw [if_pos bad.1, k6] at gk
      rw [eM, if_pos bad.1, m6] at rk
      have u := kT_0 (g := 6) (pl := nI p2) x5
      have y3 : (zi (kT X 6 (nI p2)) 5 i (nI (r1 + 2 * b1) &&& 1)).1 39 3 = nI tp := by rw [zi_c (by decide), kT_c (by omega)]; exact p4
      refine FLT_1 (g := 6) (pl := nI p2) h5 (by decide) (Nat.le_refl _) gk.1 gk.2 ?_ ?_ rk ?_ ?_
      · rw [kPush_c y3 (by omega) (by omega) (by omega), zi_c (by decide)]; exact u.1
      · rw [kPush_c y3 (by omega) (by omega) (by omega), zi_c (by decide)]; exact u.2
      · rw [zi_c (by decide), zi_c (by decide), zi_k (by decide), zi_c (by decide), zi_c (by decide)]; exact mF_f.1
      · rw [zi_c (by decide), zi_c (by decide), zi_k (by decide), zi_c (by decide), zi_c (by decide)]; exact mF_f.2
    · left
      have kk : (if (nI o = 12 ∨ nI o = 13) then kPub X (nI (r2 + 2 * b2)) (nI p2) else X) = X := by
        by_cases z : nI o = 12 ∨ nI o = 13
        · rw [if_pos z]; unfold kPub; rw [if_neg (fun q => bad ⟨z, pubs.mp q⟩)]
        · rw [if_neg z]
      rw [kk] at gk
      have mk : ∀ c' k, ¬ (c' = 106 ∧ k = j) → (mBi T mp j).1 c' k = T.1 c' k := fun c' k hc => by
        rw [eM]
        by_cases z : nI o = 12 ∨ nI o = 13
        · have : mPb T (mp + 1) = T := by unfold mPb; rw [if_neg (fun q => bad ⟨z, pubT.mp q.2⟩)]
          rw [if_pos z, this, zi_get, if_neg hc]
        · rw [if_neg z]
      have mk2 : ∀ c' k, (mBi T mp j).2 c' k = T.2 c' k := fun c' k => by
        rw [eM]
        by_cases z : nI o = 12 ∨ nI o = 13
        · have : mPb T (mp + 1) = T := by unfold mPb; rw [if_neg (fun q => bad ⟨z, pubT.mp q.2⟩)]
          rw [if_pos z, this]; rfl
        · rw [if_neg z]
      have z3 : (zi X 5 i (nI (r1 + 2 * b1) &&& 1)).1 39 3 = nI tp := by rw [zi_c (by decide)]; exact p4
      have kp := kPush_t (S := zi X 5 i (nI (r1 + 2 * b1) &&& 1)) (xv := nI (r' + 2 * (b1 * b2))) z3 (by omega)
      have kc : KKc S (kPush (zi X 5 i (nI (r1 + 2 * b1) &&& 1)) (nI (r' + 2 * (b1 * b2)))) i (i + 1) tp := ⟨fun c k q1 q2 q3 q4 => by rw [kPush_c z3 (by omega) q3 (by omega), zi_get, if_neg (by omega)]; exact kX c k q3, fun _ _ => by rw [eX]; rfl⟩
      have km : KKm T (zi (zi (zi (zi (mBi T mp j) 80 j (nI r1)) 73 43 (nI (mp + 1))) 100 mp (nI (b1 * b2))) 98 mp (nI r')) j (j + 1) mp c := ⟨fun c' k q1 q2 q3 q4 => by rw [zi_get, if_neg (by omega), zi_get, if_neg (by omega), zi_get, if_neg (by omega), zi_get, if_neg (by omega)]; exact mk c' k (by omega), fun c' k => mk2 c' k⟩
      have hbb : b1 * b2 ≤ 1 := by
        have u1 : b1 = 0 ∨ b1 = 1 := by omega
        rcases u1 with u1 | u1 <;> subst u1 <;> omega
      obtain ⟨F6, F7, F8⟩ := bin_g o1 o2 hr1 hr2 hf
      rw [← F6] at e5
      have y80 : (zi (zi (zi (zi (mBi T mp j) 80 j (nI r1)) 73 43 (nI (mp + 1))) 100 mp (nI (b1 * b2))) 98 mp (nI r')).1 80 j = nI r1 := by
        rw [zi_c (by decide), zi_c (by decide), zi_c (by decide)]; exact zi_v
      have y106 : o = 12 ∨ o = 13 → (zi (zi (zi (zi (mBi T mp j) 80 j (nI r1)) 73 43 (nI (mp + 1))) 100 mp (nI (b1 * b2))) 98 mp (nI r')).1 106 j = nI p2 := fun q => by
        rw [zi_c (by decide), zi_c (by decide), zi_c (by decide), zi_c (by decide), eM, if_pos (q.imp (fun y => by rw [y]; rfl) (fun y => by rw [y]; rfl))]; exact zi_v
      have b5 := aX_bnd c5
      have b6 := aX_bnd e5
      have y5 : (kPush (zi X 5 i (nI (r1 + 2 * b1) &&& 1)) (nI (r' + 2 * (b1 * b2)))).1 5 i = nI r1 := by
        rw [kPush_c z3 (by omega) (by omega) (by omega)]
        exact zi_v.trans (pt_1 hr1 hb1).1
      refine ⟨_, _, gk.2, gk.1.symm, rk, LX_k h kc km ?_ kp.1 ?_ ?_ ?_, kc, km, r', b1 * b2, hr', hbb, kp.2, zi_v, ?_, ?_, aX_bin ⟨p2, i1, j1, i, j, o, r1, aX_k c5 (anS_k kc (Or.inl (by omega))) (anT_k km (Or.inl (by omega))), aX_k e5 (anS_k kc (Or.inl (by omega))) (anT_k km (Or.inl (by omega))), o1, o2, hr1, F7, F8, er, rfl, rfl, (kc.1 4 i (by omega) (by omega) (by omega) (by omega)).trans s4, y5, ?_, (km.1 78 j (by omega) (by omega) (by omega) (by omega)).trans t2, (km.1 79 j (by omega) (by omega) (by omega) (by omega)).trans t3, y80, fun y => ⟨y106 y, PB_k (e5p (by
        have : ¬ b2 = 0 := fun q => bad ⟨y.imp (fun y => by rw [y]; rfl) (fun y => by rw [y]; rfl), q⟩
        omega)) (anT_k (j := j1) (j' := j) km (Or.inl (by omega))) (Nat.le_refl _) (Nat.le_refl _)⟩⟩, fun y => ?_⟩
      · rw [kPush_c z3 (by omega) (by omega) (by omega), zi_c (by decide)]; exact x5
      · rw [zi_c (by decide), zi_c (by decide), zi_k (by decide), zi_c (by decide), mk 73 7 (by omega)]; exact h7
      · rw [zi_c (by decide), zi_c (by decide)]; exact zi_v
      · rw [zi_c (by decide), zi_c (by decide), zi_k (by decide), zi_c (by decide), mk 73 56 (by omega)]; exact h.2.2.2.2.2
      · rw [zi_c (by decide)]; exact zi_v
      · rw [zi_c (by decide), zi_c (by decide), zi_c (by decide), zi_c (by decide), mk 99 mp (by omega)]; exact c4
      · rw [kPush_c z3 (by omega) (by omega) (by omega), zi_c (by decide)]; exact x7
      · have yb : b1 = 1 ∧ b2 = 1 := by
          have u1 : b1 = 0 ∨ b1 = 1 := by omega
          rcases u1 with u1 | u1 <;> subst u1 <;> omega
        exact PB_cat (PB_k (c5p yb.1) (anT_k (j := j0) (j' := j1) km (Or.inl (by omega))) (Nat.le_refl _) (Nat.le_refl _)) (PB_cat (PB_k (e5p yb.2) (anT_k (j := j1) (j' := j) km (Or.inl (by omega))) (Nat.le_refl _) (Nat.le_refl _)) (PB_1 (k := 13) ((km.1 78 j (by omega) (by omega) (by omega) (by omega)).trans t2) (by omega) (by omega)))
  · right
    rw [if_neg hf] at rk
    have eK : kOp3 X i (nI (r1 + 2 * b1)) (nI (r2 + 2 * b2)) (nI (37 + o)) = kT X 5 (nI a) := by
      unfold kOp3
      rw [if_neg (fun q => hf (F1.mp q)), x6]
    rw [eK] at gk
    have u := kT_0 (g := 5) (pl := nI a) x5
    have y3 : (zi (kT X 5 (nI a)) 5 i (nI (r1 + 2 * b1) &&& 1)).1 39 3 = nI tp := by rw [zi_c (by decide), kT_c (by omega)]; exact p4
    refine FLT_1 (g := 5) (pl := nI a) h5 (by decide) (Nat.le_refl _) gk.1 gk.2 ?_ ?_ rk mF_f.1 mF_f.2
    · rw [kPush_c y3 (by omega) (by omega) (by omega), zi_c (by decide)]; exact u.1
    · rw [kPush_c y3 (by omega) (by omega) (by omega), zi_c (by decide)]; exact u.2
end LB
