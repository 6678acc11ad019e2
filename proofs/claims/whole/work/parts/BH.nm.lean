/-! SORTS of one EXPR on both sides: a NAME -/
section LN
variable {l : Launch} {Gr : zG} {n w : Nat} {d : Nat} {A : Nat → Nat → Prop} {b : Nat → Int32} {t N D m f tp mp c sz mz p i i' j j' x : Nat} {S S' S'' T T' T'' : zS}
theorem LX_k {tp' mp' c' i1 i2 j1 j2 tq mq cq : Nat} (h : LX b t N D m f A tp mp c sz mz S T) (hS : KKc S S' i1 i2 tq) (hT : KKm T T' j1 j2 mq cq) (h5 : S'.1 3 5 = 0) (h3 : S'.1 39 3 = nI tp') (h7 : T'.1 73 7 = 0) (h43 : T'.1 73 43 = nI mp') (h56 : T'.1 73 56 = nI c') : LX b t N D m f A tp' mp' c' sz mz S' T' :=
  ⟨EV_k h.1 hS hT, ⟨(hS.1 3 4 (by omega) (by omega) (by omega) (by omega)).trans h.2.1.1, h.2.1.2.1, h5⟩, h3, ⟨(hT.1 73 13 (by omega) (by omega) (by omega) (by omega)).trans h.2.2.2.1.1, h.2.2.2.1.2.1, h7⟩, h43, h56⟩
theorem kT_0 {g pl : Int32} (h : S.1 3 5 = 0) : (kT S g pl).1 3 5 = g ∧ (kT S g pl).1 3 6 = pl := by
  unfold kT
  rw [if_pos h]
  exact cF_f
theorem FLT_1 (hS : S.1 3 5 = 0) {g pl : Int32} (hg : fz g) {X : zS} (hi : i + 1 ≤ i') (g1 : kS b t S i = X) (g2 : CG l Gr n w d S i X (i + 1)) (a1 : X.1 3 5 = g) (a2 : X.1 3 6 = pl) {j1 : Nat} (r : RG l Gr n w d T j T' j1) (a3 : T'.1 73 7 = g) (a4 : T'.1 73 8 = pl) : FLT l Gr n w d b t S T i i' j :=
  ⟨g, pl, X, T', i + 1, j1, by omega, hi, hg, g2, by rw [show i + 1 - i = 1 by omega, kR_1 hS]; exact g1.symm, a1, a2, r, a3, a4⟩
theorem mRf_v {s : Nat} : (mRf T j s).1 102 j = T.1 91 s ∧ (mRf T j s).1 103 j = T.1 94 s ∧ (mRf T j s).1 104 j = T.1 93 s ∧ (mRf T j s).1 105 j = T.1 92 s := by
  unfold mRf
  exact ⟨by rw [zi_c (by decide), zi_c (by decide), zi_c (by decide)]; exact zi_v, by rw [zi_c (by decide), zi_c (by decide)]; exact zi_v, by rw [zi_c (by decide)]; exact zi_v, zi_v⟩
theorem ex_nam (hg : ip_gk (lg_tbl, vwCl, Gr)) (h : LX b t N D m f A tp mp c sz mz S T) (htp : tp < 372) (hmp : mp < 4200) (hi : i + 1 ≤ sz) (hj : j + 2 ≤ mz) (s1 : S.1 4 i = 24) (s6 : S.1 6 i = nI p) (t1 : T.1 78 j = 1) (t2 : T.1 78 (j + 1) = 5) (t4 : T.1 79 (j + 1) = nI x) (t3 : T.1 81 (j + 1) = nI p) (hid : nid b t T x p) : EXO l Gr n w d b t N D m f A tp mp c sz mz S T p i (i + 1) j (j + 2) := by
  have hE := h.1
  have hT := hE.1
  have ht := hT.2.1
  have hD := hT.2.2.2.2
  have hV := hE.2.1
  have hm := hV.2.1
  have h5 := h.2.1.2.2
  have h7 := h.2.2.2.1.2.2
  have hp : p < t := by
    obtain ⟨_, _, _, _, _, _, _, _, y⟩ := hid
    exact y
  have ep : (S.1 6 i).toNatClampNeg = p := by rw [s6]; exact nI_clamp (by omega)
  have g := g_24 (l := l) (Gr := Gr) (n := n) (w := w) (d := d) (b := b) (t := t) hg (LX_ci h (by omega)) s1 hT hV (Nat.le_of_lt hp) s6 h.2.2.1 htp
  have r1 := r_1 (l := l) (Gr := Gr) (n := n) (w := w) (d := d) hg (LX_ri h (by omega)) t1
  rcases kFind_eq hE hid with ⟨e1, e2⟩ | ⟨u, dd, hu, hd, e16, e1, e2, ec⟩
  · right
    have r2 := r_5n (l := l) (Gr := Gr) (n := n) (w := w) (d := d) hg (LX_ri (j := j + 1) h (by omega)) t2 hE.2.2.1 (by omega) (by rw [t4]; exact e2)
    have ek : kName b t S i = kRes b t S i := by unfold kName; rw [ep, if_pos e1]
    have er : kRes b t S i = zi (kT S 4 (S.1 6 i)) 5 i (-1) := by unfold kRes; rw [ep, e1, if_pos rfl]
    have a := kT_0 (g := 4) (pl := S.1 6 i) h5
    refine FLT_1 (g := 4) (pl := nI p) h5 (by decide) (Nat.le_refl _) g.1 g.2 ?_ ?_ (RG_tr r1 r2) mF_f.1 (by rw [t3]; exact mF_f.2)
    · rw [ek, er, zi_c (by decide)]; exact a.1
    · rw [ek, er, zi_c (by decide), a.2]; exact s6
  · obtain ⟨⟨d', s', y, k, q1, q2, q3, q4, q5, q6, q7, q8, q9, q10, q11, ⟨r, hr, q12⟩, ⟨z, hz, q13⟩, ⟨a0, l0, q15, q17, q16⟩, -⟩, h95⟩ := hE.2.2.2.2.2.2 u hu
    have edd : d' = dd := (nI_eq (by omega) (by omega)).mp (q2.symm.trans e16)
    subst edd
    have hno := nI_no (v := d') (by omega)
    have cd : (nI d').toNatClampNeg = d' := nI_clamp (by omega)
    have er : kRes b t S i = zi S 5 i (nI d') := by unfold kRes; rw [ep, e1, if_neg hno]
    obtain ⟨X, eX⟩ : ∃ X, X = zi S 5 i (nI d') := ⟨_, rfl⟩
    have kX : ∀ c k, c ≠ 5 → X.1 c k = S.1 c k := fun c k hc => by rw [eX]; exact zi_c hc
    have ek : kName b t S i = kPush (if X.1 11 d' = 4 ∨ ¬ X.1 13 d' ≤ 0 then kT X 5 (S.1 6 i) else X) (S.1 12 d' ||| (if S.1 11 d' = 2 then 2 else 0)) := by
      unfold kName
      rw [ep, e1, if_neg hno, er, ← eX, cd]
    rw [kX 11 d' (by decide), kX 13 d' (by decide)] at ek
    have r2 := r_5 (l := l) (Gr := Gr) (n := n) (w := w) (d := d) hg (LX_ri (j := j + 1) h (by omega)) t2 hE.2.2.1 (by omega) (by rw [t4]; exact e2) (by omega) h.2.2.2.2.1 hmp
    have x5 : X.1 3 5 = 0 := (kX 3 5 (by decide)).trans h5
    have x3 : X.1 39 3 = nI tp := (kX 39 3 (by decide)).trans h.2.2.1
    have same : (S.1 11 d' = 4 ∨ ¬ S.1 13 d' ≤ 0) ↔ (0 < T.1 93 u ∨ T.1 91 u = 5) := by
      rw [q8, q9, q11, q13]
      have a1 : nI k = 4 ↔ k = 4 := nI_eq (b := 4) (by omega) (by omega)
      have a2 : nI (k + 1) = 5 ↔ k = 4 := ⟨fun y => by have := (nI_eq (a := k + 1) (b := 5) (by omega) (by omega)).mp y; omega, fun y => by rw [y]; rfl⟩
      have a3 : nI z ≤ 0 ↔ z ≤ 0 := nI_leI (a := z) (b := 0) (by omega) (by omega)
      have a4 : (0 : Int32) < nI z ↔ 0 < z := ⟨fun y => by
        by_cases q : z = 0
        · subst q; exact absurd y (by decide)
        · omega, fun y => nI_lt (a := 0) (b := z) y (by omega)⟩
      rw [a1, a2, a3, a4]
      omega
    by_cases hb : S.1 11 d' = 4 ∨ ¬ S.1 13 d' ≤ 0
    · right
      rw [if_pos hb] at ek
      rw [if_pos (same.mp hb)] at r2
      have a := kT_0 (g := 5) (pl := S.1 6 i) x5
      have y3 : (kT X 5 (S.1 6 i)).1 39 3 = nI tp := (kT_c (by omega)).trans x3
      refine FLT_1 (g := 5) (pl := nI p) h5 (by decide) (Nat.le_refl _) g.1 g.2 ?_ ?_ (RG_tr r1 r2) mF_f.1 (by rw [t3]; exact mF_f.2)
      · rw [ek, kPush_c y3 htp (by omega) (by omega)]; exact a.1
      · rw [ek, kPush_c y3 htp (by omega) (by omega), a.2]; exact s6
    · left
      rw [if_neg hb] at ek
      rw [if_neg (fun y => hb (same.mpr y))] at r2
      have kc : KKc S X i (i + 1) tp := ⟨fun c k a1 a2 a3 a4 => by rw [eX, zi_get, if_neg (by omega)], fun _ _ => by rw [eX]; rfl⟩
      have km : KKm T (mRf T (j + 1) u) j (j + 2) mp c := ⟨fun c' k a1 a2 a3 a4 => by
        unfold mRf
        rw [zi_get, if_neg (by omega), zi_get, if_neg (by omega), zi_get, if_neg (by omega), zi_get, if_neg (by omega)], fun _ _ => rfl⟩
      have hX : LX b t N D m f A tp mp c sz mz X (mRf T (j + 1) u) := LX_k h kc km x5 x3 ((mRf_c (by omega)).trans h7) ((mRf_c (by omega)).trans h.2.2.2.2.1) ((mRf_c (by omega)).trans h.2.2.2.2.2)
      obtain ⟨pb, epb⟩ : ∃ pb, pb = if k = 2 then 1 else 0 := ⟨_, rfl⟩
      have hpb : pb ≤ 1 := by rw [epb]; split <;> omega
      have k2 : nI k = 2 ↔ k = 2 := nI_eq (b := 2) (by omega) (by omega)
      have k3 : nI (k + 1) = 3 ↔ k = 2 := ⟨fun y => by have := (nI_eq (a := k + 1) (b := 3) (by omega) (by omega)).mp y; omega, fun y => by rw [y]; rfl⟩
      have exv : S.1 12 d' ||| (if S.1 11 d' = 2 then 2 else 0) = nI (r + 2 * pb) := by
        rw [q12, q8, epb]
        have r01 : r = 0 ∨ r = 1 := by omega
        by_cases y : k = 2
        · rw [if_pos (k2.mpr y), if_pos y]
          rcases r01 with e | e <;> subst e <;> decide
        · rw [if_neg (fun q => y (k2.mp q)), if_neg y]
          rcases r01 with e | e <;> subst e <;> decide
      have epv : (if T.1 91 u = 3 then (1 : Int32) else 0) &&& 1 = nI pb := by
        rw [q9, epb]
        by_cases y : k = 2
        · rw [if_pos (k3.mpr y), if_pos y]; decide
        · rw [if_neg (fun q => y (k3.mp q)), if_neg y]; decide
      have nk : ¬ k = 4 := fun y => hb (Or.inl (by rw [q8, y]; rfl))
      have z0 : z = 0 := by
        by_cases y : z = 0
        · exact y
        · exact absurd (Or.inr (fun q => y (by have := (nI_leI (a := z) (b := 0) (by omega) (by omega)).mp (by rw [q13] at q; exact q); omega))) hb
      subst z0
      have mR := mRf_v (T := T) (j := j + 1) (s := u)
      have hx : aX w D A r X (mRf T (j + 1) u) i (i + 1) j (j + 2) := aX_nam ⟨d', k, a0, ⟨hd, q7, hr, by omega, l0, q17 (vis_k ec q9 q7), (kX 11 d' (by decide)).trans q8, (kX 12 d' (by decide)).trans q12, (kX 13 d' (by decide)).trans q13, fun q => (kX 14 d' (by decide)).trans (q16 q), mR.1.trans q9, mR.2.1.trans q15, mR.2.2.1.trans (q11.trans q13), mR.2.2.2.trans (q10.trans q12)⟩, nk, rfl, rfl, (kX 4 i (by decide)).trans s1, by rw [eX]; exact zi_v, (mRf_c (by omega)).trans t1, (mRf_c (by omega)).trans t2⟩
      have hPB : pb = 1 → PB (mRf T (j + 1) u) j (j + 2) := fun y => by
        have k2 : k = 2 := by
          by_cases z : k = 2
          · exact z
          · rw [epb, if_neg z] at y
            exact absurd y (by omega)
        refine PB_cat (j1 := j + 1) (PB_1 (k := 1) ((mRf_c (by omega)).trans t1) (by omega) (by omega)) (fun x q1 q2 => ?_)
        have ex : x = j + 1 := by omega
        rw [ex, (mRf_c (by omega)).trans t2]
        exact ⟨by decide, by decide, fun _ => mR.1.trans (by rw [q9, k2]; rfl)⟩
      obtain ⟨b1, b2, b3, b4⟩ := lx_push (p := p) (i := i) (i' := i + 1) (j := j) (j' := j + 2) (r := r) (pb := pb) (xv := S.1 12 d' ||| (if S.1 11 d' = 2 then 2 else 0)) (q := T.1 81 (j + 1)) (pv := if T.1 91 u = 3 then 1 else 0) hX htp hr hpb exv epv t3 hx hPB
      rw [q10, q12] at r2
      exact ⟨_, _, by rw [ek] at g; exact g.2, by rw [show i + 1 - i = 1 by omega, kR_1 h5, ← ek]; exact g.1.symm, RG_tr r1 r2, b1, KKc_tr kc b2 (Nat.le_refl _) (Nat.le_refl _) (Nat.le_refl _), KKm_tr km b3 (Nat.le_refl _) (Nat.le_refl _) (Nat.le_refl _) (Nat.le_refl _), b4⟩
end LN
