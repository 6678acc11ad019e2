/-! SORTS of one EXPR on both sides: ( ), signs, int() -/
section LU
variable {l : Launch} {Gr : zG} {n w : Nat} {d : Nat} {A : Nat → Nat → Prop} {b : Nat → Int32} {t N D m f tp mp c sz mz p p1 i i' i1 j j' j1 x : Nat} {S S' S'' S1 T T' T'' T1 : zS}
theorem FLT_up (h : FLT l Gr n w d b t S T i i1 j) (a : i1 ≤ i') : FLT l Gr n w d b t S T i i' j := by
  obtain ⟨g, pl, S', T', u, j1, h1, h2, h3⟩ := h
  exact ⟨g, pl, S', T', u, j1, h1, by omega, h3⟩
theorem FLT_pre (g : CG l Gr n w d S i S1 i1) (k : S1 = kR b t (i1 - i) i S) (r : RG l Gr n w d T j T1 j1) (a : i ≤ i1) (h : FLT l Gr n w d b t S1 T1 i1 i' j1) : FLT l Gr n w d b t S T i i' j := by
  obtain ⟨e, pl, S', T', u, j2, h1, h2, h3, h4, h5, h6, h7, h8, h9⟩ := h
  exact ⟨e, pl, S', T', u, j2, by omega, h2, h3, CG_tr g h4, kR_cat k h5 a (by omega), h6, h7, RG_tr r h8, h9⟩
theorem pt_1 {r pb : Nat} (hr : r ≤ 1) (hp : pb ≤ 1) : nI (r + 2 * pb) &&& 1 = nI r ∧ nI (r + 2 * pb) &&& 2 = nI (2 * pb) := by
  have a : r = 0 ∨ r = 1 := by omega
  have e : pb = 0 ∨ pb = 1 := by omega
  rcases a with a | a <;> rcases e with e | e <;> subst a <;> subst e <;> decide
theorem nI_b {r k : Nat} (hr : r ≤ 1) (hk : k ≤ 1) : nI r = nI k ↔ r = k := nI_eq (by omega) (by omega)
theorem kTop_t (h3 : S.1 39 3 = nI (tp + 1)) (htp : tp < 372) : kTop S = S.1 40 tp := by
  unfold kTop
  rw [h3, nI_pred, nI_clamp (by omega)]
/-- ( EXPR ) -/
theorem ex_bra (hg : ip_gk (lg_tbl, vwCl, Gr)) (h : LX b t N D m f A tp mp c sz mz S T) (hmp : mp < 4200) (hi : i < sz) (hii : i + 1 ≤ i') (hj : j < mz) (hj1 : j1 < mz) (hjj : j + 1 ≤ j1) (s1 : S.1 4 i = 21) (t1 : T.1 78 j = 1) (t2 : T.1 78 j1 = 15) (t3 : T.1 81 j1 = nI p) (sub : EXO l Gr n w d b t N D m f A tp mp c sz mz S T p1 (i + 1) i' (j + 1) j1) : EXO l Gr n w d b t N D m f A tp mp c sz mz S T p i i' j (j1 + 1) := by
  have g := g_21 (l := l) (Gr := Gr) (n := n) (w := w) (d := d) (b := b) (t := t) hg (LX_ci h hi) s1
  have r1 := r_1 (l := l) (Gr := Gr) (n := n) (w := w) (d := d) hg (LX_ri h hj) t1
  have k0 : S = kR b t (i + 1 - i) i S := by rw [show i + 1 - i = 1 by omega, kR_1 h.2.1.2.2]; exact g.1.symm
  rcases sub with ⟨S1, T1, a1, a2, a3, a4, a5, a6, r, pb, hr, hpb, b1, b2, b3, b4, b5, b5p⟩ | hF
  · have t78 : T1.1 78 j1 = 15 := (a6.1 78 j1 (by omega) (by omega) (by omega) (by omega)).trans t2
    have t81 : T1.1 81 j1 = nI p := (a6.1 81 j1 (by omega) (by omega) (by omega) (by omega)).trans t3
    have r2 := r_15 (l := l) (Gr := Gr) (n := n) (w := w) (d := d) hg (LX_ri (j := j1) a4 hj1) t78 a4.2.2.2.2.1 hmp
    have km : KKm T1 (zi T1 99 mp (T1.1 81 j1)) j (j1 + 1) mp c := ⟨fun c' k q1 q2 q3 q4 => by rw [zi_get, if_neg (by omega)], fun _ _ => rfl⟩
    have zc' : ∀ c' k, ¬ c' = 99 → (zi T1 99 mp (T1.1 81 j1)).1 c' k = T1.1 c' k := fun c' k hc => zi_c hc
    refine Or.inl ⟨S1, zi T1 99 mp (T1.1 81 j1), CG_tr g.2 a1, kR_cat k0 a2 (by omega) hii, RG_tr r1 (RG_tr a3 r2), LX_k a4 (KKc_rfl (i := 0) (i' := 0) (tp := 0)) km a4.2.1.2.2 a4.2.2.1 ((zc' 73 7 (by decide)).trans a4.2.2.2.1.2.2) ((zc' 73 43 (by decide)).trans a4.2.2.2.2.1) ((zc' 73 56 (by decide)).trans a4.2.2.2.2.2), ⟨fun c k q1 q2 q3 q4 => a5.1 c k q1 (by omega) q3 q4, a5.2⟩, KKm_tr (j1 := j1) ⟨fun c' k q1 q2 q3 q4 => a6.1 c' k q1 q2 (by omega) q4, a6.2⟩ km (by omega) (Nat.le_refl _) (Nat.le_refl _) (Nat.le_refl _), r, pb, hr, hpb, b1, (zc' 98 mp (by decide)).trans b2, (zc' 100 mp (by decide)).trans b3, ?_, ?_, fun y => PB_cat (PB_1 (k := 1) ((zc' 78 j (by decide)).trans ((a6.1 78 j (by omega) (by omega) (by omega) (by omega)).trans t1)) (by omega) (by omega)) (PB_cat (PB_k (b5p y) ⟨fun c' k q => zc' c' k (by omega), fun _ => rfl⟩ (Nat.le_refl _) (Nat.le_refl _)) (PB_1 (k := 15) ((zc' 78 j1 (by decide)).trans t78) (by omega) (by omega)))⟩
    · rw [zi_v]; exact t81
    · exact aX_bra ⟨j1, aX_k b5 anS_rfl ⟨fun c' k q => zc' c' k (by omega), fun _ => rfl⟩, rfl, (a5.1 4 i (by omega) (by omega) (by omega) (by omega)).trans s1, (zc' 78 j (by decide)).trans ((a6.1 78 j (by omega) (by omega) (by omega) (by omega)).trans t1), (zc' 78 j1 (by decide)).trans t78⟩
  · exact Or.inr (FLT_pre g.2 k0 r1 (by omega) hF)
/-- a sign and its EXPR -/
theorem ex_una (hg : ip_gk (lg_tbl, vwCl, Gr)) (h : LX b t N D m f A tp mp c sz mz S T) (htp : tp < 372) (hmp : mp < 4200) (hi : i1 < sz) (hii : i ≤ i1) (hj1 : j1 < mz) (hjj : j ≤ j1) (s6 : S.1 6 i1 = nI p) (t2 : T.1 78 j1 = 12) (t3 : T.1 81 j1 = nI p) (so : (S.1 4 i1 = 34 ∧ T.1 79 j1 = 45) ∨ (S.1 4 i1 = 35 ∧ T.1 79 j1 = 126) ∨ (S.1 4 i1 = 36 ∧ T.1 79 j1 = 33)) (sub : EXO l Gr n w d b t N D m f A tp mp c sz mz S T p1 i i1 j j1) : EXO l Gr n w d b t N D m f A tp mp c sz mz S T p i (i1 + 1) j (j1 + 1) := by
  rcases sub with ⟨S1, T1, a1, a2, a3, a4, a5, a6, r, pb, hr, hpb, b1, b2, b3, b4, b5, b5p⟩ | hF
  · have u4 : S1.1 4 i1 = S.1 4 i1 := a5.1 4 i1 (by omega) (by omega) (by omega) (by omega)
    have u6 : S1.1 6 i1 = nI p := (a5.1 6 i1 (by omega) (by omega) (by omega) (by omega)).trans s6
    have t78 : T1.1 78 j1 = 12 := (a6.1 78 j1 (by omega) (by omega) (by omega) (by omega)).trans t2
    have t81 : T1.1 81 j1 = nI p := (a6.1 81 j1 (by omega) (by omega) (by omega) (by omega)).trans t3
    have t79 : T1.1 79 j1 = T.1 79 j1 := a6.1 79 j1 (by omega) (by omega) (by omega) (by omega)
    have h3 := a4.2.2.1
    have h5 := a4.2.1.2.2
    have h7 := a4.2.2.2.1.2.2
    have hci := LX_ci (i := i1) a4 hi
    have r2 := r_12 (l := l) (Gr := Gr) (n := n) (w := w) (d := d) hg (LX_ri (j := j1) a4 hj1) t78 a4.2.2.2.2.1 hmp
    have top : kTop S1 = nI (r + 2 * pb) := (kTop_t h3 htp).trans b1
    obtain ⟨wt, hwt⟩ : ∃ wt, wt = if S.1 4 i1 = 36 then 1 else 0 := ⟨_, rfl⟩
    have hw1 : wt ≤ 1 := by rw [hwt]; split <;> omega
    have gk : kS b t S1 i1 = kUna S1 i1 (S1.1 4 i1) ∧ CG l Gr n w d S1 i1 (kUna S1 i1 (S1.1 4 i1)) (i1 + 1) := by
      rcases so with ⟨q, -⟩ | ⟨q, -⟩ | ⟨q, -⟩
      · exact g_34 hg hci (u4.trans q) h3 htp
      · exact g_35 hg hci (u4.trans q) h3 htp
      · exact g_36 hg hci (u4.trans q) h3 htp
    have w1 : (if S1.1 4 i1 = 36 then (1 : Int32) else 0) = nI wt := by
      rw [u4, hwt]; split <;> rfl
    have w2 : (if T1.1 79 j1 = 33 then (1 : Int32) else 0) = nI wt := by
      rw [t79, hwt]
      rcases so with ⟨q1, q2⟩ | ⟨q1, q2⟩ | ⟨q1, q2⟩ <;> rw [q1, q2] <;> decide
    have eU : kUna S1 i1 (S1.1 4 i1) = kPush (if r = wt then kPop S1 else kT (kPop S1) 5 (nI p)) (nI (r + 2 * pb)) := by
      unfold kUna
      rw [top, (pt_1 hr hpb).1, w1, kPop_c (c := 6) (by omega), u6]
      by_cases z : r = wt
      · rw [if_pos z, if_pos (by rw [z])]
      · rw [if_neg z, if_neg (fun q => z ((nI_b hr hw1).mp q))]
    have eM : (if T1.1 98 mp = (if T1.1 79 j1 = 33 then 1 else 0) then T1 else mF T1 5 (T1.1 81 j1)) = if r = wt then T1 else mF T1 5 (nI p) := by
      rw [w2, b2, t81]
      by_cases z : r = wt
      · rw [if_pos z, if_pos (by rw [z])]
      · rw [if_neg z, if_neg (fun q => z ((nI_b hr hw1).mp q))]
    rw [eM, t81] at r2
    rw [eU] at gk
    have p3 : (kPop S1).1 39 3 = nI tp := kPop_3 h3
    by_cases z : r = wt
    · rw [if_pos z] at gk r2
      have kp := kPush_t (S := kPop S1) (xv := nI (r + 2 * pb)) p3 htp
      have kc : KKc S1 (kPush (kPop S1) (nI (r + 2 * pb))) i (i1 + 1) tp := ⟨fun c k q1 q2 q3 q4 => by rw [kPush_c p3 htp q3 (by omega), kPop_c q3], fun _ _ => rfl⟩
      have km : KKm T1 (zi T1 99 mp (nI p)) j (j1 + 1) mp c := ⟨fun c' k q1 q2 q3 q4 => by rw [zi_get, if_neg (by omega)], fun _ _ => rfl⟩
      have zc' : ∀ c' k, ¬ c' = 99 → (zi T1 99 mp (nI p)).1 c' k = T1.1 c' k := fun c' k hc => zi_c hc
      have ek := kR_s (b := b) (t := t) a2 h5 hii
      rw [gk.1] at ek
      refine Or.inl ⟨_, _, CG_tr a1 gk.2, ek, RG_tr a3 r2, LX_k a4 kc km ?_ kp.1 ((zc' 73 7 (by decide)).trans h7) ((zc' 73 43 (by decide)).trans a4.2.2.2.2.1) ((zc' 73 56 (by decide)).trans a4.2.2.2.2.2), KKc_tr (i1 := i1) a5 kc (by omega) (Nat.le_refl _) (Nat.le_refl _), KKm_tr (j1 := j1) a6 km (by omega) (Nat.le_refl _) (Nat.le_refl _) (Nat.le_refl _), r, pb, hr, hpb, kp.2, (zc' 98 mp (by decide)).trans b2, (zc' 100 mp (by decide)).trans b3, zi_v, ?_, fun y => PB_cat (PB_k (b5p y) ⟨fun c' k q => zc' c' k (by omega), fun _ => rfl⟩ (Nat.le_refl _) (Nat.le_refl _)) (PB_1 (k := 12) ((zc' 78 j1 (by decide)).trans t78) (by omega) (by omega))⟩
      · rw [kPush_c p3 htp (by omega) (by omega), kPop_c (by omega)]; exact h5
      · have an : anS S1 (kPush (kPop S1) (nI (r + 2 * pb))) i i1 := fun c k q => by rw [kPush_c p3 htp (by omega) (by omega), kPop_c (by omega)]
        refine aX_una ⟨i1, j1, aX_k b5 an ⟨fun c' k q => zc' c' k (by omega), fun _ => rfl⟩, rfl, rfl, (zc' 78 j1 (by decide)).trans t78, ?_⟩
        rw [kPush_c p3 htp (by omega) (by omega), kPop_c (by omega), zc' 79 j1 (by decide), u4, t79, z, hwt]
        rcases so with ⟨q1, q2⟩ | ⟨q1, q2⟩ | ⟨q1, q2⟩
        · exact Or.inl ⟨q1, q2, by rw [q1, if_neg (by decide)]⟩
        · exact Or.inr (Or.inl ⟨q1, q2, by rw [q1, if_neg (by decide)]⟩)
        · exact Or.inr (Or.inr ⟨q1, q2, by rw [q1, if_pos rfl]⟩)
    · right
      rw [if_neg z] at gk r2
      have q5 : (kPop S1).1 3 5 = 0 := (kPop_c (by omega)).trans h5
      have a := kT_0 (g := 5) (pl := nI p) q5
      have y3 : (kT (kPop S1) 5 (nI p)).1 39 3 = nI tp := (kT_c (by omega)).trans p3
      refine FLT_pre a1 a2 a3 hii (FLT_1 (g := 5) (pl := nI p) h5 (by decide) (Nat.le_refl _) gk.1 gk.2 ?_ ?_ r2 ?_ ?_)
      · rw [kPush_c y3 htp (by omega) (by omega)]; exact a.1
      · rw [kPush_c y3 htp (by omega) (by omega)]; exact a.2
      · rw [zi_c (by decide)]; exact mF_f.1
      · rw [zi_c (by decide)]; exact mF_f.2
  · exact Or.inr (FLT_up hF (by omega))
end LU
