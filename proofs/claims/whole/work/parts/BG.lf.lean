/-! SORTS of one EXPR on both sides: leaves -/
section LF
variable {l : Launch} {Gr : zG} {n w : Nat} {d : Nat} {A : Nat → Nat → Prop} {b : Nat → Int32} {t N D m f tp mp c sz mz p i i' j j' x : Nat} {S S' S'' T T' T'' : zS}
theorem kR_1 (h : S.1 3 5 = 0) : kR b t 1 i S = kS b t S i := kR_0 h
theorem kR_cat {S1 S2 : zS} {i1 i2 : Nat} (h1 : S1 = kR b t (i1 - i) i S) (h2 : S2 = kR b t (i2 - i1) i1 S1) (a : i ≤ i1) (a2 : i1 ≤ i2) : S2 = kR b t (i2 - i) i S := by
  have e := kR_add (b := b) (t := t) (i1 - i) (i2 - i1) i S
  rw [show i1 - i + (i2 - i1) = i2 - i by omega, show i + (i1 - i) = i1 by omega, ← h1, ← h2] at e
  exact e.symm
theorem kR_s {S1 : zS} {i1 : Nat} (h1 : S1 = kR b t (i1 - i) i S) (hf : S1.1 3 5 = 0) (a : i ≤ i1) : kS b t S1 i1 = kR b t (i1 + 1 - i) i S :=
  kR_cat (i2 := i1 + 1) h1 (by rw [show i1 + 1 - i1 = 1 by omega]; exact (kR_1 hf).symm) a (by omega)
theorem LX_ci (h : LX b t N D m f A tp mp c sz mz S T) (hi : i < sz) : CIx S i sz := ⟨h.2.1.1, h.2.1.2.1, h.2.1.2.2, hi⟩
theorem LX_ri (h : LX b t N D m f A tp mp c sz mz S T) (hj : j < mz) : RIx T j mz := ⟨h.2.2.2.1.1, h.2.2.2.1.2.1, h.2.2.2.1.2.2, hj⟩
theorem kPush_c {xv : Int32} {c k : Nat} (h3 : S.1 39 3 = nI tp) (htp : tp < 372) (h1 : ¬ (c = 39 ∧ k = 3)) (h2 : ¬ (c = 40 ∧ k = tp)) : (kPush S xv).1 c k = S.1 c k := by
  unfold kPush
  rw [h3, nI_clamp (by omega), zi_get, if_neg h2, zi_get, if_neg h1]
theorem kPush_t {xv : Int32} (h3 : S.1 39 3 = nI tp) (htp : tp < 372) : (kPush S xv).1 39 3 = nI (tp + 1) ∧ (kPush S xv).1 40 tp = xv := by
  unfold kPush
  rw [h3, nI_clamp (by omega), nI_1]
  exact ⟨by rw [zi_c (by decide)]; exact zi_v, zi_v⟩
theorem mPl_c {r q pb : Int32} {c k : Nat} (h1 : ¬ (c = 73 ∧ k = 43)) (h2 : ¬ ((c = 98 ∨ c = 99 ∨ c = 100) ∧ k = mp)) : (mPl T mp r q pb).1 c k = T.1 c k := by
  unfold mPl
  rw [zi_get, if_neg h1, zi_get, if_neg (by omega), zi_get, if_neg (by omega), zi_get, if_neg (by omega)]
theorem mPl_t {r q pb : Int32} : (mPl T mp r q pb).1 73 43 = nI (mp + 1) ∧ (mPl T mp r q pb).1 98 mp = r ∧ (mPl T mp r q pb).1 99 mp = q ∧ (mPl T mp r q pb).1 100 mp = pb &&& 1 := by
  unfold mPl
  exact ⟨zi_v, by rw [zi_c (by decide), zi_c (by decide), zi_c (by decide)]; exact zi_v, by rw [zi_c (by decide), zi_c (by decide)]; exact zi_v, by rw [zi_c (by decide)]; exact zi_v⟩
/-- both have one EXPR more -/
theorem lx_push (h : LX b t N D m f A tp mp c sz mz S T) (htp : tp < 372) {r pb : Nat} {xv q pv : Int32} (hr : r ≤ 1) (hpb : pb ≤ 1) (e1 : xv = nI (r + 2 * pb)) (e2 : pv &&& 1 = nI pb) (eq : q = nI p) {i0 i0' j0 j0' : Nat} (hx : aX w D A r S T i0 i0' j0 j0') (hP : pb = 1 → PB T j0 j0') : LX b t N D m f A (tp + 1) (mp + 1) c sz mz (kPush S xv) (mPl T mp (nI r) q pv) ∧ KKc S (kPush S xv) i i' tp ∧ KKm T (mPl T mp (nI r) q pv) j j' mp c ∧ PT w D A (kPush S xv) (mPl T mp (nI r) q pv) tp mp p i0 i0' j0 j0' := by
  have h3 := h.2.2.1
  have kc : KKc S (kPush S xv) i i' tp := ⟨fun c k q1 q2 q3 q4 => kPush_c h3 htp q3 (by omega), fun _ _ => rfl⟩
  have km : KKm T (mPl T mp (nI r) q pv) j j' mp c := ⟨fun c k q1 q2 q3 q4 => mPl_c (by omega) (by omega), fun _ _ => rfl⟩
  have a := kPush_t (xv := xv) h3 htp
  have m4 := mPl_t (T := T) (mp := mp) (r := nI r) (q := q) (pb := pv)
  refine ⟨⟨EV_k h.1 kc km, ⟨(kPush_c h3 htp (by omega) (by omega)).trans h.2.1.1, h.2.1.2.1, (kPush_c h3 htp (by omega) (by omega)).trans h.2.1.2.2⟩, a.1, ⟨(mPl_c (by omega) (by omega)).trans h.2.2.2.1.1, h.2.2.2.1.2.1, (mPl_c (by omega) (by omega)).trans h.2.2.2.1.2.2⟩, m4.1, (mPl_c (by omega) (by omega)).trans h.2.2.2.2.2⟩, kc, km, r, pb, hr, hpb, ?_, m4.2.1, ?_, ?_, aX_k hx (anS_k (i1 := 0) (i2 := 0) (tq := tp) ⟨fun c k q1 q2 q3 q4 => kPush_c h3 htp q3 (by omega), fun _ _ => rfl⟩ (Or.inr (Nat.zero_le _))) (anT_k (j1 := 0) (j2 := 0) (mq := mp) (cq := c) ⟨fun c k q1 q2 q3 q4 => mPl_c (by omega) (by omega), fun _ _ => rfl⟩ (Or.inr (Nat.zero_le _))), fun y => PB_k (hP y) (anT_k (j := j0) (j' := j0') (j1 := 0) (j2 := 0) (mq := mp) (cq := c) ⟨fun c k q1 q2 q3 q4 => mPl_c (by omega) (by omega), fun _ _ => rfl⟩ (Or.inr (Nat.zero_le _))) (Nat.le_refl _) (Nat.le_refl _)⟩
  · rw [a.2]; exact e1
  · rw [m4.2.2.2]; exact e2
  · rw [m4.2.2.1]; exact eq
theorem ex_num (hg : ip_gk (lg_tbl, vwCl, Gr)) (h : LX b t N D m f A tp mp c sz mz S T) (htp : tp < 372) (hmp : mp < 4200) (hi : i + 1 ≤ sz) (hj : j + 2 ≤ mz) (s1 : S.1 4 i = 22) (t1 : T.1 78 j = 1) (t2 : T.1 78 (j + 1) = 2) (t3 : T.1 81 (j + 1) = nI p) {vv : Nat} (hv : vv < 2 ^ 32) (s5 : S.1 5 i = nI vv) (t82 : T.2 82 (j + 1) = lN (vv % 2 ^ w)) : EXO l Gr n w d b t N D m f A tp mp c sz mz S T p i (i + 1) j (j + 2) := by
  have g := g_22 (l := l) (Gr := Gr) (n := n) (w := w) (d := d) (b := b) (t := t) hg (LX_ci h (by omega)) s1 h.2.2.1 htp
  have r1 := r_1 (l := l) (Gr := Gr) (n := n) (w := w) (d := d) hg (LX_ri h (by omega)) t1
  have r2 := r_2 (l := l) (Gr := Gr) (n := n) (w := w) (d := d) hg (LX_ri (j := j + 1) h (by omega)) t2 h.2.2.2.2.1 hmp
  obtain ⟨a1, a2, a3, a4⟩ := lx_push (p := p) (i := i) (i' := i + 1) (j := j) (j' := j + 2) (r := 0) (pb := 1) (xv := 2) (q := T.1 81 (j + 1)) (pv := 1) h htp (by omega) (by omega) rfl rfl t3 (aX_num (w := w) (D := D) (A := A) ⟨vv, hv, rfl, rfl, rfl, s1, s5, t1, t2, t82⟩) (fun _ => PB_cat (PB_1 (k := 1) t1 (by omega) (by omega)) (PB_1 (k := 2) t2 (by omega) (by omega)))
  exact Or.inl ⟨_, _, g.2, by rw [show i + 1 - i = 1 by omega, kR_1 h.2.1.2.2]; exact g.1.symm, RG_tr r1 r2, a1, a2, a3, a4⟩
theorem ex_tru (hg : ip_gk (lg_tbl, vwCl, Gr)) (h : LX b t N D m f A tp mp c sz mz S T) (htp : tp < 372) (hmp : mp < 4200) (hi : i + 1 ≤ sz) (hj : j + 2 ≤ mz) (s1 : S.1 4 i = 23) (t1 : T.1 78 j = 1) (t2 : (S.1 5 i = -1 ∧ T.1 78 (j + 1) = 3) ∨ (S.1 5 i = -2 ∧ T.1 78 (j + 1) = 4)) (t3 : T.1 81 (j + 1) = nI p) : EXO l Gr n w d b t N D m f A tp mp c sz mz S T p i (i + 1) j (j + 2) := by
  have g := g_23 (l := l) (Gr := Gr) (n := n) (w := w) (d := d) (b := b) (t := t) hg (LX_ci h (by omega)) s1 h.2.2.1 htp
  have r1 := r_1 (l := l) (Gr := Gr) (n := n) (w := w) (d := d) hg (LX_ri h (by omega)) t1
  have r2 : RG l Gr n w d T (j + 1) (mPl T mp 1 (T.1 81 (j + 1)) 1) (j + 1 + 1) := by
    rcases t2 with ⟨-, t2⟩ | ⟨-, t2⟩
    · exact r_3 hg (LX_ri (j := j + 1) h (by omega)) t2 h.2.2.2.2.1 hmp
    · exact r_4 hg (LX_ri (j := j + 1) h (by omega)) t2 h.2.2.2.2.1 hmp
  obtain ⟨a1, a2, a3, a4⟩ := lx_push (p := p) (i := i) (i' := i + 1) (j := j) (j' := j + 2) (r := 1) (pb := 1) (xv := 3) (q := T.1 81 (j + 1)) (pv := 1) h htp (by omega) (by omega) rfl rfl t3 (aX_tru (w := w) (D := D) (A := A) ⟨rfl, rfl, rfl, s1, t1, t2⟩) (fun _ => PB_cat (PB_1 (k := 1) t1 (by omega) (by omega)) (t2.elim (fun q => PB_1 (k := 3) q.2 (by omega) (by omega)) (fun q => PB_1 (k := 4) q.2 (by omega) (by omega))))
  exact Or.inl ⟨_, _, g.2, by rw [show i + 1 - i = 1 by omega, kR_1 h.2.1.2.2]; exact g.1.symm, RG_tr r1 r2, a1, a2, a3, a4⟩
end LF
