/-! SORTS of one EXPR on both sides: int() and bit() -/
theorem or_v {r pb : Nat} (hr : r ≤ 1) (hp : pb ≤ 1) : (0 ||| (nI (r + 2 * pb) &&& 2)) = nI (0 + 2 * pb) ∧ (1 ||| (nI (r + 2 * pb) &&& 2)) = nI (1 + 2 * pb) := by
  have a : r = 0 ∨ r = 1 := by omega
  have e : pb = 0 ∨ pb = 1 := by omega
  rcases a with rfl | rfl <;> rcases e with rfl | rfl <;> decide
section LIn
variable {l : Launch} {Gr : zG} {n w : Nat} {d : Nat} {A : Nat → Nat → Prop} {b : Nat → Int32} {t N D m f tp mp c sz mz p p1 p2 i i' i1 i2 j j' j1 j2 x o a : Nat} {S S' S'' S1 S2 T T' T'' T1 T2 : zS}
/-- the class's mustBe, where an EXPR of SORT r lies on top -/
theorem kMust_v {wt : Nat} (h3 : S.1 39 3 = nI (tp + 1)) (htp : tp < 372) {r pb : Nat} (hr : r ≤ 1) (hpb : pb ≤ 1) (hw : wt ≤ 1) (b1 : S.1 40 tp = nI (r + 2 * pb)) (s6 : S.1 6 i = nI p1) : kMust S (nI wt) i = if r = wt then kPop S else kT (kPop S) 5 (nI p1) := by
  unfold kMust
  rw [kTop_t h3 htp, b1, (pt_1 hr hpb).1, kPop_c (c := 6) (by omega), s6]
  by_cases z : r = wt
  · rw [if_pos z, if_pos (by rw [z])]
  · rw [if_neg z, if_neg (fun q => z ((nI_b hr hw).mp q))]
theorem mMu_v {wt r : Nat} (h7 : T.1 73 7 = 0) (hr : r ≤ 1) (hw : wt ≤ 1) (b2 : T.1 98 mp = nI r) (b4 : T.1 99 mp = nI p1) : mMu T mp (nI wt) = if r = wt then T else mF T 5 (nI p1) := by
  unfold mMu
  rw [b2, b4]
  by_cases z : r = wt
  · rw [if_pos z, if_neg (fun q => q.2 (by rw [z]))]
  · rw [if_neg z, if_pos ⟨h7, fun q => z ((nI_b hr hw).mp q)⟩]
theorem ex_int (hg : ip_gk (lg_tbl, vwCl, Gr)) (h : LX b t N D m f A tp mp c sz mz S T) (htp : tp < 372) (hmp : mp < 4200) (hi : i1 < sz) (hii : i + 1 ≤ i1) (hj1 : j1 < mz) (hjj : j + 1 ≤ j1) (s1 : S.1 4 i = 21) (s2 : S.1 4 i1 = 31) (s6 : S.1 6 i1 = nI p1) (t1 : T.1 78 j = 1) (t2 : T.1 78 j1 = 10) (t3 : T.1 81 j1 = nI p) (sub : EXO l Gr n w d b t N D m f A tp mp c sz mz S T p1 (i + 1) i1 (j + 1) j1) : EXO l Gr n w d b t N D m f A tp mp c sz mz S T p i (i1 + 1) j (j1 + 1) := by
  have g := g_21 (l := l) (Gr := Gr) (n := n) (w := w) (d := d) (b := b) (t := t) hg (LX_ci h (by omega)) s1
  have r1 := r_1 (l := l) (Gr := Gr) (n := n) (w := w) (d := d) hg (LX_ri h (by omega)) t1
  have k0 : S = kR b t (i + 1 - i) i S := by rw [show i + 1 - i = 1 by omega, kR_1 h.2.1.2.2]; exact g.1.symm
  rcases sub with ⟨S1, T1, a1, a2, a3, a4, a5, a6, r, pb, hr, hpb, b1, b2, b3, b4, b5, b5p⟩ | hF
  · have u4 : S1.1 4 i1 = 31 := (a5.1 4 i1 (by omega) (by omega) (by omega) (by omega)).trans s2
    have u6 : S1.1 6 i1 = nI p1 := (a5.1 6 i1 (by omega) (by omega) (by omega) (by omega)).trans s6
    have t78 : T1.1 78 j1 = 10 := (a6.1 78 j1 (by omega) (by omega) (by omega) (by omega)).trans t2
    have t81 : T1.1 81 j1 = nI p := (a6.1 81 j1 (by omega) (by omega) (by omega) (by omega)).trans t3
    have h3 := a4.2.2.1
    have h5 := a4.2.1.2.2
    have h7 := a4.2.2.2.1.2.2
    have k1 := kR_cat k0 a2 (by omega) hii
    have gk := g_31 (l := l) (Gr := Gr) (n := n) (w := w) (d := d) (b := b) (t := t) hg (LX_ci (i := i1) a4 hi) u4 h3 htp
    have rk := r_10 (l := l) (Gr := Gr) (n := n) (w := w) (d := d) hg (LX_ri (j := j1) a4 hj1) t78 a4.2.2.2.2.1 hmp
    have e1 := kMust_v (S := S1) (i := i1) (wt := 1) h3 htp hr hpb (by omega) b1 u6
    have e2 := mMu_v (T := T1) (mp := mp) (wt := 1) h7 hr (by omega) b2 b4
    rw [show nI 1 = 1 from rfl] at e1 e2
    rw [e1, kTop_t h3 htp, b1, (or_v hr hpb).1] at gk
    rw [e2, t81] at rk
    have p3 : (kPop S1).1 39 3 = nI tp := kPop_3 h3
    by_cases z : r = 1
    · left
      rw [if_pos z] at gk rk
      have kp := kPush_t (S := kPop S1) (xv := nI (0 + 2 * pb)) p3 htp
      have kc : KKc S1 (kPush (kPop S1) (nI (0 + 2 * pb))) i (i1 + 1) tp := ⟨fun c k q1 q2 q3 q4 => by rw [kPush_c p3 htp q3 (by omega), kPop_c q3], fun _ _ => rfl⟩
      have km : KKm T1 (zi (zi T1 99 mp (nI p)) 98 mp 0) j (j1 + 1) mp c := ⟨fun c' k q1 q2 q3 q4 => by rw [zi_get, if_neg (by omega), zi_get, if_neg (by omega)], fun _ _ => rfl⟩
      have zc' : ∀ c' k, ¬ c' = 99 → ¬ c' = 98 → (zi (zi T1 99 mp (nI p)) 98 mp 0).1 c' k = T1.1 c' k := fun c' k hc hd => by rw [zi_c hd, zi_c hc]
      have ek := kR_s (b := b) (t := t) k1 h5 (by omega)
      rw [gk.1] at ek
      refine ⟨_, _, CG_tr g.2 (CG_tr a1 gk.2), ek, RG_tr r1 (RG_tr a3 rk), LX_k a4 kc km ?_ kp.1 ((zc' 73 7 (by decide) (by decide)).trans h7) ((zc' 73 43 (by decide) (by decide)).trans a4.2.2.2.2.1) ((zc' 73 56 (by decide) (by decide)).trans a4.2.2.2.2.2), KKc_tr (i1 := i1) ⟨fun c k q1 q2 q3 q4 => a5.1 c k q1 (by omega) q3 q4, a5.2⟩ kc (by omega) (Nat.le_refl _) (Nat.le_refl _), KKm_tr (j1 := j1) ⟨fun c' k q1 q2 q3 q4 => a6.1 c' k q1 q2 (by omega) q4, a6.2⟩ km (by omega) (Nat.le_refl _) (Nat.le_refl _) (Nat.le_refl _), 0, pb, by omega, hpb, kp.2, zi_v, (zc' 100 mp (by decide) (by decide)).trans b3, ?_, ?_, fun y => PB_cat (PB_1 (k := 1) ((zc' 78 j (by decide) (by decide)).trans ((a6.1 78 j (by omega) (by omega) (by omega) (by omega)).trans t1)) (by omega) (by omega)) (PB_cat (PB_k (b5p y) ⟨fun c' k q => zc' c' k (by omega) (by omega), fun _ => rfl⟩ (Nat.le_refl _) (Nat.le_refl _)) (PB_1 (k := 10) ((zc' 78 j1 (by decide) (by decide)).trans t78) (by omega) (by omega)))⟩
      · rw [kPush_c p3 htp (by omega) (by omega), kPop_c (by omega)]; exact h5
      · rw [zi_c (by decide)]; exact zi_v
      · have an : ∀ c k, ¬ c = 39 → ¬ c = 40 → (kPush (kPop S1) (nI (0 + 2 * pb))).1 c k = S1.1 c k := fun c k q1 q2 => by rw [kPush_c p3 htp (by omega) (by omega), kPop_c (by omega)]
        rw [z] at b5
        exact aX_int ⟨i1, j1, aX_k b5 (fun c k q => an c k (by omega) (by omega)) ⟨fun c' k q => zc' c' k (by omega) (by omega), fun _ => rfl⟩, rfl, rfl, rfl, (an 4 i (by decide) (by decide)).trans ((a5.1 4 i (by omega) (by omega) (by omega) (by omega)).trans s1), (an 4 i1 (by decide) (by decide)).trans u4, (zc' 78 j (by decide) (by decide)).trans ((a6.1 78 j (by omega) (by omega) (by omega) (by omega)).trans t1), (zc' 78 j1 (by decide) (by decide)).trans t78⟩
    · right
      rw [if_neg z] at gk rk
      have q5 : (kPop S1).1 3 5 = 0 := (kPop_c (by omega)).trans h5
      have u := kT_0 (g := 5) (pl := nI p1) q5
      have y3 : (kT (kPop S1) 5 (nI p1)).1 39 3 = nI tp := (kT_c (by omega)).trans p3
      refine FLT_pre (CG_tr g.2 a1) k1 (RG_tr r1 a3) (by omega) (FLT_1 (g := 5) (pl := nI p1) h5 (by decide) (Nat.le_refl _) gk.1 gk.2 ?_ ?_ rk ?_ ?_)
      · rw [kPush_c y3 htp (by omega) (by omega)]; exact u.1
      · rw [kPush_c y3 htp (by omega) (by omega)]; exact u.2
      · rw [zi_c (by decide), zi_c (by decide)]; exact mF_f.1
      · rw [zi_c (by decide), zi_c (by decide)]; exact mF_f.2
  · exact Or.inr (FLT_pre g.2 k0 r1 (by omega) (FLT_up hF (by omega)))
end LIn
