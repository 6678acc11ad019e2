/-! SORTS of statements on both sides: a BLOCK's statements; if, its steps -/
def SIH (l : Launch) (Gr : zG) (n w d : Nat) (b : Nat → Int32) (t N D sz mz : Nat) (S0 T0 : zS) (K : Nat) : Prop := ∀ vw vw' p i i' j j' m A sc u lo hi S T, gS w S0 T0 (nid b t T0) D K vw vw' p i i' j j' → cgS S0 S i i' → cgU T0 T j j' → nmS S0 S D → (∀ v p, nid b t T0 v p → nid b t T v p) → LSt b t N D m A 0 0 sz mz sc u vw lo hi S T → i' ≤ sz → j' ≤ mz → HB S0 i i' 0 0 0 → sc + K ≤ 31 → STO l Gr n w d b t N D sz mz sc u lo hi vw vw' m A S T p i i' j j'
section STI
variable {l : Launch} {Gr : zG} {n w : Nat} {d : Nat} {A : Nat → Nat → Prop} {b : Nat → Int32} {t N D m m2 tp mp sz mz sc u vw vw' lo hi lo1 hi1 p q i i' i1 i2 j j' j1 j2 x K hd e a r r' pb z vv p1 s k v : Nat} {S0 T0 S S' S'' T T' T'' : zS}
theorem st_lst (IH : SIH l Gr n w d b t N D sz mz S0 T0 K) : ∀ k vw vw' i i' j j', gL (gS w S0 T0 (nid b t T0) D K) k vw vw' i i' j j' → cgS S0 S i i' → cgU T0 T j j' → nmS S0 S D → (∀ v p, nid b t T0 v p → nid b t T v p) → LSt b t N D m A 0 0 sz mz sc u vw lo hi S T → i' ≤ sz → j' ≤ mz → HB S0 i i' 0 0 0 → sc + K ≤ 31 →
    (∃ m' A' lo' hi' S' T', CG l Gr n w d S i S' i' ∧ S' = kR b t (i' - i) i S ∧ RG l Gr n w d T j T' j' ∧ LSt b t N D m' A' 0 0 sz mz sc u vw' lo' hi' S' T' ∧ KSc S S' i i' m sc u ∧ KSm T T' j j' m sc ∧ m ≤ m' ∧ lo' ≤ lo ∧ hi ≤ hi' ∧ aL (aT w D S' T') lo' hi' k vw vw' A A' i i' j j') ∨ FLT l Gr n w d b t S T i i' j
  | 0, vw, vw', i, i', j, j', g, cs, ct, hn, hni, h, hsz, hmz, hB, hK => by
    obtain ⟨e1, e2, e3⟩ := g
    subst e1 e2 e3
    exact Or.inl ⟨m, A, lo, hi, S, T, CG_rfl, by rw [Nat.sub_self]; rfl, RG_rfl, h, KSc_rfl, KSm_rfl, Nat.le_refl _, Nat.le_refl _, Nat.le_refl _, rfl, rfl, rfl, rfl⟩
  | k + 1, vw, vw', i, i', j, j', g, cs, ct, hn, hni, h, hsz, hmz, hB, hK => by
    obtain ⟨i1, j1, p1, v1, g1, g2⟩ := g
    have b1 := gL_bnd (gS_bnd K) _ _ _ _ _ _ _ g1
    have b2 := gS_bnd K _ _ _ _ _ _ _ g2
    have hs4 := h.1.2.1.2.1
    rcases st_lst IH k vw v1 i i1 j j1 g1 (cgS_sb cs (Nat.le_refl _) (by omega)) (cgU_sb ct (Nat.le_refl _) (by omega)) hn hni h (by omega) (by omega) (fun y q1 q2 => hB y q1 (by omega)) hK with ⟨m1, A1, lo1, hi1, S1, T1, a1, a2, a3, a4, a5, a6, a7, a8, a9, a10⟩ | hF
    · have ne := gL_ne (S := S0) (gS_ne (w := w) (T := T0) (ni := nid b t T0) (D := D) K) (gS_bnd K) _ _ _ _ _ _ _ g1 (by omega)
      rcases IH v1 vw' p1 i1 i' j1 j' m1 A1 sc u lo1 hi1 S1 T1 g2 (cs_s (cgS_sb cs (by omega) (Nat.le_refl _)) a5 (Nat.le_refl _)) (cu_s (cgU_sb ct (by omega) (Nat.le_refl _)) a6 (Nat.le_refl _)) (nm_s hn a5) (fun v p y => nid_s (hni v p y) a6) a4 hsz hmz (HB_le hB ne (Nat.le_refl _) (by omega) (by omega)) hK with ⟨m2, A2, lo2, hi2, S2, T2, c1, c2, c3, c4, c5, c6, c7, c8, c9, c10⟩ | hF
      · exact Or.inl ⟨m2, A2, lo2, hi2, S2, T2, CG_tr a1 c1, kR_cat a2 c2 (by omega) (by omega), RG_tr a3 c3, c4, KSc_tr a5 c5 (by omega) (by omega) a7 (Nat.le_refl _) (Nat.le_refl _), KSm_tr a6 c6 (by omega) (by omega) a7 (Nat.le_refl _), by omega, by omega, by omega, i1, j1, p1, v1, A1, aL_T c8 c9 a10 (anS_s c5 (Or.inl (Nat.le_refl _))) (anU_s c6 (Or.inl (Nat.le_refl _))), c10⟩
      · exact Or.inr (FLT_pre a1 a2 a3 (by omega) hF)
    · exact Or.inr (FLT_up hF (by omega))
theorem sub_max {X y : Nat} (hX : X ≤ 256) (hy : y ≤ 256) : ip_max 0 (nI X - nI y) = nI (X - y) := by
  by_cases z : y ≤ X
  · rw [pk_sub z, show (0 : Int32) = nI 0 from rfl, ip_max_n (by omega) (by omega), Nat.zero_max]
  · obtain ⟨k, rfl⟩ : ∃ k, y = X + k := ⟨y - X, by omega⟩
    have e : nI X - nI (X + k) = -nI k := by
      rw [← nI_add, Int32.sub_eq_add_neg, Int32.neg_add, Int32.sub_eq_add_neg, ← Int32.add_assoc, Int32.add_right_neg, Int32.zero_add]
    rw [e, show X - (X + k) = 0 by omega]
    have al : ((List.range 257).all fun k => decide (ip_max 0 (-nI k) = nI 0)) = true := by decide +kernel
    exact of_decide_eq_true (List.all_eq_true.mp al k (List.mem_range.mpr (by omega)))
/-- the if itself -/
theorem if_op (hg : ip_gk (lg_tbl, vwCl, Gr)) (h : LSt b t N D m A 1 1 sz mz sc u vw lo hi S T) (hi' : i < sz) (hj : j < mz) (hsc : sc < 31) (s4 : S.1 4 i = 14) (s6 : S.1 6 i = nI p1) (t78 : T.1 78 j = 35) (hr' : r' ≤ 1) (hpb : pb ≤ 1) (b1 : S.1 40 0 = nI (r' + 2 * pb)) (b2 : T.1 98 0 = nI r') (b4 : T.1 99 0 = nI p1) :
    (∃ S' T', CG l Gr n w d S i S' (i + 1) ∧ kS b t S i = S' ∧ RG l Gr n w d T j T' (j + 1) ∧ LSt b t N D m A 0 0 sz mz (sc + 1) (u + 1) vw 256 0 S' T' ∧ (∀ c k, ¬ (c = 39 ∧ (k = 3 ∨ k = 5 ∨ k = 9)) → ¬ (c = 41 ∧ k = sc) → ¬ ((c = 42 ∨ c = 43 ∨ c = 44) ∧ k = u) → S'.1 c k = S.1 c k) ∧ (∀ c k, S'.2 c k = S.2 c k) ∧ S'.1 41 sc = nI m ∧ S'.1 42 u = nI vw ∧ (∀ c k, ¬ (c = 73 ∧ (k = 43 ∨ k = 49)) → ¬ (c = 101 ∧ k = sc) → T'.1 c k = T.1 c k) ∧ (∀ c k, T'.2 c k = T.2 c k) ∧ T'.1 101 sc = nI m ∧ r' = 1) ∨ FLT l Gr n w d b t S T i (i + 1) j := by
  have hL := h.1
  have hE := hL.1
  have l3 := hL.2.2.1
  have l5 := hL.2.1.2.2
  have l7 := hL.2.2.2.1.2.2
  obtain ⟨hs5, hs49⟩ := h.2.2.1
  obtain ⟨hu9, hus⟩ := h.2.2.2.1
  obtain ⟨hw10, hvw⟩ := h.2.2.2.2.1
  have gk := g_14 (l := l) (Gr := Gr) (n := n) (w := w) (d := d) (b := b) (t := t) hg (LSt_ci h hi') s4 l3 (by omega) hs5 hsc hu9 (by omega)
  have rk := r_35 (l := l) (Gr := Gr) (n := n) (w := w) (d := d) (m := 0) hg (LSt_ri h hj) t78 hL.2.2.2.2.1 (by omega) hs49 (by omega)
  have eM := kMust_v (S := S) (i := i) (wt := 1) l3 (by omega) hr' hpb (by omega) b1 s6
  have eM2 := mMu_v (T := T) (mp := 0) (wt := 1) l7 hr' (by omega) b2 b4
  rw [show nI 1 = 1 from rfl] at eM eM2
  rw [eM] at gk
  rw [eM2, hE.2.2.1] at rk
  have p3 : (kPop S).1 39 3 = nI 0 := kPop_3 l3
  have p5 : (kPop S).1 3 5 = 0 := (kPop_c (by omega)).trans l5
  by_cases zr : r' = 1
  · left
    rw [if_pos zr] at gk rk
    have eO : kOpenIf (kOpen (kPop S)) = zi (zi (zi (zi (zi (zi (kPop S) 39 5 (nI (sc + 1))) 41 sc (nI m)) 42 u (nI vw)) 43 u 256) 44 u 0) 39 9 (nI (u + 1)) := by
      have e1 : kOpen (kPop S) = zi (zi (kPop S) 39 5 (nI (sc + 1))) 41 sc (nI m) := by
        unfold kOpen
        rw [kPop_c (c := 39) (by omega), hs5, nI_1, nI_clamp (by omega), kPop_c (c := 8) (by omega), hE.2.1.1]
      unfold kOpenIf
      rw [e1]
      have y9 : (zi (zi (kPop S) 39 5 (nI (sc + 1))) 41 sc (nI m)).1 39 9 = nI u := by rw [zi_c (by decide), zi_k (by decide), kPop_c (by omega)]; exact hu9
      have y10 : (zi (zi (kPop S) 39 5 (nI (sc + 1))) 41 sc (nI m)).1 39 10 = nI vw := by rw [zi_c (by decide), zi_k (by decide), kPop_c (by omega)]; exact hw10
      rw [y9, y10, nI_clamp (by omega), nI_1]
    rw [eO] at gk
    obtain ⟨S3, eS3⟩ : ∃ S3, S3 = zi (zi (zi (zi (zi (zi (kPop S) 39 5 (nI (sc + 1))) 41 sc (nI m)) 42 u (nI vw)) 43 u 256) 44 u 0) 39 9 (nI (u + 1)) := ⟨_, rfl⟩
    rw [← eS3] at gk
    obtain ⟨T3, eT3⟩ : ∃ T3, T3 = zi (zi (zi T 73 43 (nI 0)) 101 sc (nI m)) 73 49 (nI (sc + 1)) := ⟨_, rfl⟩
    rw [← eT3] at rk
    have x3 : ∀ c k, ¬ (c = 39 ∧ (k = 3 ∨ k = 5 ∨ k = 9)) → ¬ (c = 41 ∧ k = sc) → ¬ ((c = 42 ∨ c = 43 ∨ c = 44) ∧ k = u) → S3.1 c k = S.1 c k := fun c k q1 q2 q3 => by
      rw [eS3, zi_get, if_neg (by omega), zi_get, if_neg (by omega), zi_get, if_neg (by omega), zi_get, if_neg (by omega), zi_get, if_neg (by omega), zi_get, if_neg (by omega)]
      exact kPop_c (by omega)
    have x32 : ∀ c k, S3.2 c k = S.2 c k := fun _ _ => by rw [eS3]; rfl
    have y3 : ∀ c k, ¬ (c = 73 ∧ (k = 43 ∨ k = 49)) → ¬ (c = 101 ∧ k = sc) → T3.1 c k = T.1 c k := fun c k q1 q2 => by
      rw [eT3, zi_get, if_neg (by omega), zi_get, if_neg (by omega), zi_get, if_neg (by omega)]
    have y32 : ∀ c k, T3.2 c k = T.2 c k := fun _ _ => by rw [eT3]; rfl
    have v41 : S3.1 41 sc = nI m := by rw [eS3, zi_c (by decide), zi_c (by decide), zi_c (by decide), zi_c (by decide)]; exact zi_v
    have v42 : S3.1 42 u = nI vw := by rw [eS3, zi_c (by decide), zi_c (by decide), zi_c (by decide)]; exact zi_v
    have v43 : S3.1 43 u = nI 256 := by rw [eS3, zi_c (by decide), zi_c (by decide)]; exact zi_v
    have v44 : S3.1 44 u = nI 0 := by rw [eS3, zi_c (by decide)]; exact zi_v
    have v9 : S3.1 39 9 = nI (u + 1) := by rw [eS3]; exact zi_v
    have v5 : S3.1 39 5 = nI (sc + 1) := by rw [eS3, zi_k (by decide), zi_c (by decide), zi_c (by decide), zi_c (by decide), zi_c (by decide)]; exact zi_v
    have v3 : S3.1 39 3 = nI 0 := by rw [eS3, zi_k (by decide), zi_c (by decide), zi_c (by decide), zi_c (by decide), zi_c (by decide), zi_k (by decide)]; exact p3
    have w49 : T3.1 73 49 = nI (sc + 1) := by rw [eT3]; exact zi_v
    have w43 : T3.1 73 43 = nI 0 := by rw [eT3, zi_k (by decide), zi_c (by decide)]; exact zi_v
    have w101 : T3.1 101 sc = nI m := by rw [eT3, zi_c (by decide)]; exact zi_v
    have hp := LSt_pop (S' := zi S 39 3 (nI 0)) (T' := zi T 73 43 (nI 0)) h (fun c k q => by rw [zi_get, if_neg q]) (fun _ _ => rfl) (fun c k q => by rw [zi_get, if_neg q]) (fun _ _ => rfl) zi_v zi_v
    have kc : KSc S S3 0 0 m sc u := ⟨fun c k q1 q2 q3 q4 q5 q6 q7 q8 q9 => x3 c k (fun y => q5 ⟨y.1, by omega⟩) (fun y => q7 ⟨y.1, by omega⟩) (fun y => by
      rcases y.1 with e | e | e
      · exact q8 ⟨e, by omega⟩
      · exact q9 ⟨Or.inl e, by omega⟩
      · exact q9 ⟨Or.inr e, by omega⟩), x32⟩
    have km : KSm T T3 0 0 m sc := ⟨fun c k q1 q2 q3 q4 q5 q6 => y3 c k (fun y => q1 ⟨y.1, by omega⟩) (fun y => q3 ⟨y.1, by omega⟩), y32⟩
    refine ⟨S3, T3, gk.2, gk.1, rk, ⟨⟨EV_s hE kc km ((x3 8 11 (by omega) (by omega) (by omega)).trans hE.2.1.1) ((y3 73 34 (by omega) (by omega)).trans hE.2.2.1), ⟨(x3 3 4 (by omega) (by omega) (by omega)).trans hL.2.1.1, hL.2.1.2.1, (x3 3 5 (by omega) (by omega) (by omega)).trans l5⟩, v3, ⟨(y3 73 13 (by omega) (by omega)).trans hL.2.2.2.1.1, hL.2.2.2.1.2.1, (y3 73 7 (by omega) (by omega)).trans l7⟩, w43, (y3 73 56 (by omega) (by omega)).trans hL.2.2.2.2.2⟩, (y3 73 47 (by omega) (by omega)).trans h.2.1, ⟨v5, w49⟩, ⟨v9, by omega⟩, ⟨(x3 39 10 (by omega) (by omega) (by omega)).trans hw10, hvw⟩, Or.inr ⟨u, rfl, v43, v44, by omega, by omega⟩, VSA_s h.2.2.2.2.2.2 kc (Nat.le_refl _)⟩, x3, x32, v41, v42, y3, y32, w101, zr⟩
  · right
    rw [if_neg zr] at gk rk
    have uu := kT_0 (g := 5) (pl := nI p1) p5
    have c8 : ∀ Y : zS, (kOpenIf (kOpen Y)).1 3 5 = Y.1 3 5 ∧ (kOpenIf (kOpen Y)).1 3 6 = Y.1 3 6 := fun Y => by
      unfold kOpenIf kOpen
      exact ⟨by rw [zi_c (by decide), zi_c (by decide), zi_c (by decide), zi_c (by decide), zi_c (by decide), zi_c (by decide)], by rw [zi_c (by decide), zi_c (by decide), zi_c (by decide), zi_c (by decide), zi_c (by decide), zi_c (by decide)]⟩
    refine FLT_1 (g := 5) (pl := nI p1) l5 (by decide) (Nat.le_refl _) gk.1 gk.2 ((c8 _).1.trans uu.1) ((c8 _).2.trans uu.2) rk ?_ ?_
    · rw [zi_k (by decide), zi_c (by decide), zi_k (by decide)]; exact mF_f.1
    · rw [zi_k (by decide), zi_c (by decide), zi_k (by decide)]; exact mF_f.2
/-- behind the first BLOCK, in the class -/
theorem if_15 (h5 : S.1 39 5 = nI (sc + 1)) (hsc : sc < 31) (h41 : S.1 41 sc = nI m) (h11 : S.1 8 11 = nI m2) (hm : m ≤ m2) (hm2 : m2 ≤ 800) : (∀ c k, ¬ (c = 8 ∧ k = 11) → (kOpen (kClose S)).1 c k = S.1 c k) ∧ (kOpen (kClose S)).1 8 11 = nI m ∧ ∀ c k, (kOpen (kClose S)).2 c k = S.2 c k := by
  have e1 : kClose S = zi (zi S 39 5 (nI sc)) 8 11 (nI m) := by
    unfold kClose
    rw [h5, nI_pred, nI_clamp (by omega), h41, h11, ip_min_n (by omega) (by omega), Nat.min_eq_right hm]
  have e2 : kOpen (kClose S) = zi (zi (zi (zi S 39 5 (nI sc)) 8 11 (nI m)) 39 5 (nI (sc + 1))) 41 sc (nI m) := by
    unfold kOpen
    rw [e1]
    have y5 : (zi (zi S 39 5 (nI sc)) 8 11 (nI m)).1 39 5 = nI sc := by rw [zi_c (by decide)]; exact zi_v
    have y11 : (zi (zi S 39 5 (nI sc)) 8 11 (nI m)).1 8 11 = nI m := zi_v
    rw [y5, y11, nI_1, nI_clamp (by omega)]
  rw [e2]
  refine ⟨fun c k q => ?_, ?_, fun _ _ => rfl⟩
  · by_cases y1 : c = 41 ∧ k = sc
    · obtain ⟨rfl, rfl⟩ := y1
      exact zi_v.trans h41.symm
    · rw [zi_get, if_neg y1]
      by_cases y2 : c = 39 ∧ k = 5
      · obtain ⟨rfl, rfl⟩ := y2
        exact zi_v.trans h5.symm
      · rw [zi_get, if_neg y2, zi_get, if_neg q, zi_get, if_neg y2]
  · rw [zi_c (by decide), zi_c (by decide)]
    exact zi_v
/-- the if's end, in the class -/
theorem if_16 (h5 : S.1 39 5 = nI (sc + 1)) (hsc : sc < 31) (h41 : S.1 41 sc = nI m) (h11 : S.1 8 11 = nI m2) (hm : m ≤ m2) (hm2 : m2 ≤ 800) (h9 : S.1 39 9 = nI (u + 1)) (hu : u ≤ sc) (h42 : S.1 42 u = nI vw) (hvw : vw ≤ 256) (h43 : S.1 43 u = nI lo1) (h44 : S.1 44 u = nI hi1) (hlo : lo1 ≤ 256) (hhi : hi1 ≤ 256) (hB : BDS S u lo hi) :
    ∃ lo' hi', BDS (kCloseIf (kClose S) hd) u lo' hi' ∧ lo' ≤ lo ∧ hi ≤ hi' ∧ lo' ≤ lo1 ∧ hi1 ≤ hi' ∧ (∀ c k, ¬ (c = 39 ∧ (k = 5 ∨ k = 9)) → ¬ (c = 8 ∧ k = 11) → ¬ ((c = 5 ∨ c = 7) ∧ k = hd) → ¬ ((c = 43 ∨ c = 44) ∧ k + 1 = u) → (kCloseIf (kClose S) hd).1 c k = S.1 c k) ∧ (∀ c k, (kCloseIf (kClose S) hd).2 c k = S.2 c k) ∧ (kCloseIf (kClose S) hd).1 39 5 = nI sc ∧ (kCloseIf (kClose S) hd).1 39 9 = nI u ∧ (kCloseIf (kClose S) hd).1 8 11 = nI m ∧ (kCloseIf (kClose S) hd).1 5 hd = nI lo1 ∧ (kCloseIf (kClose S) hd).1 7 hd = nI (min hi1 vw - lo1) := by
  have e1 : kClose S = zi (zi S 39 5 (nI sc)) 8 11 (nI m) := by
    unfold kClose
    rw [h5, nI_pred, nI_clamp (by omega), h41, h11, ip_min_n (by omega) (by omega), Nat.min_eq_right hm]
  obtain ⟨X, eX⟩ : ∃ X, X = zi (zi S 39 5 (nI sc)) 8 11 (nI m) := ⟨_, rfl⟩
  rw [e1, ← eX]
  have xk : ∀ c k, ¬ (c = 39 ∧ k = 5) → ¬ (c = 8 ∧ k = 11) → X.1 c k = S.1 c k := fun c k q1 q2 => by rw [eX, zi_get, if_neg q2, zi_get, if_neg q1]
  have x9 : X.1 39 9 - 1 = nI u := by rw [xk 39 9 (by omega) (by omega), h9]; exact nI_pred u
  have x42 : X.1 42 u = nI vw := (xk 42 u (by omega) (by omega)).trans h42
  have x43 : X.1 43 u = nI lo1 := (xk 43 u (by omega) (by omega)).trans h43
  have x44 : X.1 44 u = nI hi1 := (xk 44 u (by omega) (by omega)).trans h44
  obtain ⟨Y, eY⟩ : ∃ Y, Y = zi (zi (zi X 39 9 (nI u)) 5 hd (nI lo1)) 7 hd (nI (min hi1 vw - lo1)) := ⟨_, rfl⟩
  have ek : kCloseIf X hd = if nI u ≤ 0 then Y else kWiden Y (nI u - 1).toNatClampNeg (nI lo1) (nI hi1) := by
    unfold kCloseIf
    simp only []
    rw [x9, nI_clamp (by omega), x43, x44, x42, ip_min_n (by omega) (by omega), sub_max (by omega) (by omega), ← eY]
  have yk : ∀ c k, ¬ (c = 39 ∧ k = 9) → ¬ ((c = 5 ∨ c = 7) ∧ k = hd) → Y.1 c k = X.1 c k := fun c k q1 q2 => by rw [eY, zi_get, if_neg (by omega), zi_get, if_neg (by omega), zi_get, if_neg q1]
  have y9 : Y.1 39 9 = nI u := by rw [eY, zi_c (by decide), zi_c (by decide)]; exact zi_v
  have y5 : Y.1 5 hd = nI lo1 := by rw [eY, zi_c (by decide)]; exact zi_v
  have y7 : Y.1 7 hd = nI (min hi1 vw - lo1) := by rw [eY]; exact zi_v
  have y39 : Y.1 39 5 = nI sc := by rw [yk 39 5 (by omega) (by omega), eX, zi_c (by decide)]; exact zi_v
  have y11 : Y.1 8 11 = nI m := by rw [yk 8 11 (by omega) (by omega), eX]; exact zi_v
  have y2 : ∀ c k, Y.2 c k = S.2 c k := fun _ _ => by rw [eY, eX]; rfl
  rcases hB with ⟨e0, e2, e3⟩ | ⟨u', eu, b1, b2, b3, b4⟩
  · subst e0
    rw [ek, if_pos (by decide)]
    exact ⟨lo, hi, Or.inl ⟨rfl, e2, e3⟩, Nat.le_refl _, Nat.le_refl _, by omega, by omega, fun c k q1 q2 q3 q4 => (yk c k (by omega) q3).trans (xk c k (by omega) q2), y2, y39, y9, y11, y5, y7⟩
  · subst eu
    have b1' : Y.1 43 u' = nI lo := (yk 43 u' (by omega) (by omega)).trans ((xk 43 u' (by omega) (by omega)).trans b1)
    have b2' : Y.1 44 u' = nI hi := (yk 44 u' (by omega) (by omega)).trans ((xk 44 u' (by omega) (by omega)).trans b2)
    have ew : kWiden Y (nI (u' + 1) - 1).toNatClampNeg (nI lo1) (nI hi1) = zi (zi Y 43 u' (nI (min lo lo1))) 44 u' (nI (max hi hi1)) := by
      unfold kWiden
      rw [nI_pred, nI_clamp (by omega), b1', b2', ip_min_n (by omega) (by omega), ip_max_n (by omega) (by omega)]
    rw [ek, if_neg (fun y => by have := (nI_leI (a := u' + 1) (b := 0) (by omega) (by omega)).mp y; omega), ew]
    have wk : ∀ c k, ¬ ((c = 43 ∨ c = 44) ∧ k = u') → (zi (zi Y 43 u' (nI (min lo lo1))) 44 u' (nI (max hi hi1))).1 c k = Y.1 c k := fun c k q => by rw [zi_get, if_neg (by omega), zi_get, if_neg (by omega)]
    exact ⟨min lo lo1, max hi hi1, Or.inr ⟨u', rfl, by rw [zi_c (by decide)]; exact zi_v, zi_v, by omega, by omega⟩, by omega, by omega, by omega, by omega, fun c k q1 q2 q3 q4 => (wk c k (by omega)).trans ((yk c k (by omega) q3).trans (xk c k (by omega) q2)), y2, (wk 39 5 (by omega)).trans y39, (wk 39 9 (by omega)).trans y9, (wk 8 11 (by omega)).trans y11, (wk 5 hd (by omega)).trans y5, (wk 7 hd (by omega)).trans y7⟩
end STI
