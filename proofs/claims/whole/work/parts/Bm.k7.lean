/-! SORTS leaves what the heights are reckoned of -/
def K7 (S X : zS) : Prop := (∀ k, X.1 4 k = S.1 4 k) ∧ (∀ k, S.1 4 k = 30 ∨ S.1 4 k = 26 ∨ S.1 4 k = 16 → X.1 5 k = S.1 5 k) ∧ ∀ k, S.1 4 k = 28 → X.1 7 k = S.1 7 k
section K7S
variable {S X Y : zS} {b : Nat → Int32} {t i i' k : Nat} {x y op : Int32} {n w D : Nat} {T : zS}
theorem K7_rfl : K7 S S := ⟨fun _ => rfl, fun _ _ => rfl, fun _ _ => rfl⟩
theorem K7_zi {c : Nat} {v : Int32} (h4 : c ≠ 4) (h5 : c ≠ 5) (h7 : c ≠ 7) (h : K7 S X) : K7 S (zi X c k v) := ⟨fun j => by rw [zi_c (fun e => h4 e.symm)]; exact h.1 j, fun j q => by rw [zi_c (fun e => h5 e.symm)]; exact h.2.1 j q, fun j q => by rw [zi_c (fun e => h7 e.symm)]; exact h.2.2 j q⟩
theorem K7_z5 {v : Int32} (hk : ¬ (S.1 4 k = 30 ∨ S.1 4 k = 26 ∨ S.1 4 k = 16)) (h : K7 S X) : K7 S (zi X 5 k v) := ⟨fun j => by rw [zi_c (by decide)]; exact h.1 j, fun j q => by
  rw [zi_get, if_neg (fun e => hk (by rw [← e.2]; exact q))]
  exact h.2.1 j q, fun j q => by rw [zi_c (by decide)]; exact h.2.2 j q⟩
theorem K7_z7 {v : Int32} (hk : ¬ S.1 4 k = 28) (h : K7 S X) : K7 S (zi X 7 k v) := ⟨fun j => by rw [zi_c (by decide)]; exact h.1 j, fun j q => by rw [zi_c (by decide)]; exact h.2.1 j q, fun j q => by
  rw [zi_get, if_neg (fun e => hk (by rw [← e.2]; exact q))]
  exact h.2.2 j q⟩
theorem K7_ite {Pp : Prop} [Decidable Pp] (h1 : K7 S X) (h2 : K7 S Y) : K7 S (if Pp then X else Y) := by
  split
  · exact h1
  · exact h2
theorem K7_if {Pp : Prop} [Decidable Pp] (h1 : Pp → K7 S X) (h2 : ¬ Pp → K7 S Y) : K7 S (if Pp then X else Y) := by
  by_cases y : Pp
  · rw [if_pos y]; exact h1 y
  · rw [if_neg y]; exact h2 y
theorem K7_kT (h : K7 S X) : K7 S (kT X x y) := K7_ite (K7_zi (by decide) (by decide) (by decide) (K7_zi (by decide) (by decide) (by decide) h)) h
theorem K7_kPop (h : K7 S X) : K7 S (kPop X) := K7_zi (by decide) (by decide) (by decide) h
theorem K7_kPush (h : K7 S X) : K7 S (kPush X x) := K7_zi (by decide) (by decide) (by decide) (K7_zi (by decide) (by decide) (by decide) h)
theorem K7_kMust (h : K7 S X) : K7 S (kMust X x i) := K7_ite (K7_kPop h) (K7_kT (K7_kPop h))
theorem K7_kPub (h : K7 S X) : K7 S (kPub X x y) := K7_ite (K7_kT h) h
theorem K7_kShow (h : K7 S X) : K7 S (kShow X x) := K7_zi (by decide) (by decide) (by decide) (K7_zi (by decide) (by decide) (by decide) h)
theorem K7_kOpen (h : K7 S X) : K7 S (kOpen X) := K7_zi (by decide) (by decide) (by decide) (K7_zi (by decide) (by decide) (by decide) h)
theorem K7_kClose (h : K7 S X) : K7 S (kClose X) := K7_zi (by decide) (by decide) (by decide) (K7_zi (by decide) (by decide) (by decide) h)
theorem K7_kOpenIf (h : K7 S X) : K7 S (kOpenIf X) := K7_zi (by decide) (by decide) (by decide) (K7_zi (by decide) (by decide) (by decide) (K7_zi (by decide) (by decide) (by decide) (K7_zi (by decide) (by decide) (by decide) h)))
theorem K7_kWiden (h : K7 S X) : K7 S (kWiden X k x y) := K7_zi (by decide) (by decide) (by decide) (K7_zi (by decide) (by decide) (by decide) h)
theorem K7_kNote (h : K7 S X) : K7 S (kNote X k) := K7_ite h (K7_kWiden h)
theorem K7_kIn (h : K7 S X) : K7 S (kIn b t X i) := K7_ite h (K7_kT h)
theorem K7_kRes (hk : ¬ (S.1 4 i = 30 ∨ S.1 4 i = 26 ∨ S.1 4 i = 16)) (h : K7 S X) : K7 S (kRes b t X i) := K7_z5 hk (K7_ite (K7_kT h) h)
theorem K7_kName (hk : ¬ (S.1 4 i = 30 ∨ S.1 4 i = 26 ∨ S.1 4 i = 16)) (h : K7 S X) : K7 S (kName b t X i) := K7_ite (K7_kRes hk h) (K7_kPush (K7_ite (K7_kT (K7_kRes hk h)) (K7_kRes hk h)))
theorem K7_kHead {call : Bool} (hk : ¬ (S.1 4 i = 30 ∨ S.1 4 i = 26 ∨ S.1 4 i = 16)) (h : K7 S X) : K7 S (kHead b t X i call) := K7_ite (K7_kRes hk h) (K7_ite (K7_kRes hk h) (K7_kT (K7_kRes hk h)))
theorem K7_kTarget {el : Bool} (hk : ¬ (S.1 4 i = 30 ∨ S.1 4 i = 26 ∨ S.1 4 i = 16)) (h : K7 S X) : K7 S (kTarget b t X i el) := K7_ite (K7_kRes hk h) (K7_ite (K7_kRes hk h) (K7_kT (K7_kRes hk h)))
theorem K7_kCloseIf (hk : S.1 4 k = 14) (h : K7 S X) : K7 S (kCloseIf X k) := by
  have q : K7 S (zi (zi (zi X 39 9 (X.1 39 9 - 1)) 5 k (X.1 43 (X.1 39 9 - 1).toNatClampNeg)) 7 k (ip_max 0 (ip_min (X.1 44 (X.1 39 9 - 1).toNatClampNeg) (X.1 42 (X.1 39 9 - 1).toNatClampNeg) - X.1 43 (X.1 39 9 - 1).toNatClampNeg))) := K7_z7 (by rw [hk]; decide) (K7_z5 (by rw [hk]; decide) (K7_zi (by decide) (by decide) (by decide) h))
  exact K7_ite q (K7_kWiden q)
theorem K7_kOp3 {x' : Int32} (h : K7 S X) : K7 S (kOp3 X i x x' op) := K7_ite (K7_ite (K7_kPub h) h) (K7_kT h)
theorem K7_kOpr (hk : ¬ (S.1 4 i = 30 ∨ S.1 4 i = 26 ∨ S.1 4 i = 16)) (h : K7 S X) : K7 S (kOpr X i op) := K7_kPush (K7_z5 hk (K7_kOp3 (K7_kPop (K7_kPop h))))
theorem K7_kSel (hk : ¬ (S.1 4 i = 30 ∨ S.1 4 i = 26 ∨ S.1 4 i = 16)) (h : K7 S X) : K7 S (kSel X i) := K7_kPush (K7_z5 hk (K7_ite (K7_kPop (K7_kPop (K7_kPop h))) (K7_kT (K7_kPop (K7_kPop (K7_kPop h))))))
theorem K7_kUna (h : K7 S X) : K7 S (kUna X i op) := K7_kPush (K7_ite (K7_kPop h) (K7_kT (K7_kPop h)))
theorem K7_kS (r : K7 S X) (hp : pj S i) : K7 S (kS b t X i) := by
  have ne : ∀ o : Int32, X.1 4 i = o → ¬ (o = 30 ∨ o = 26 ∨ o = 16) → ¬ (S.1 4 i = 30 ∨ S.1 4 i = 26 ∨ S.1 4 i = 16) := fun o h1 h2 => by rw [← r.1 i, h1]; exact h2
  unfold kS
  refine K7_ite (K7_kShow (K7_kIn r)) (K7_ite (K7_zi (by decide) (by decide) (by decide) (K7_kIn r)) (K7_ite (K7_kShow (K7_zi (by decide) (by decide) (by decide) (K7_zi (by decide) (by decide) (by decide) (K7_kMust r)))) (K7_ite (K7_zi (by decide) (by decide) (by decide) (K7_kIn r)) (K7_ite (K7_kShow (K7_kMust r)) (K7_ite (K7_kShow r) (K7_if (fun q => K7_kTarget (ne _ q (by decide)) r) (fun _ => K7_if (fun q => K7_kTarget (ne _ q (by decide)) r) (fun _ => K7_ite (K7_kNote (K7_kMust r)) (K7_if (fun q => K7_z5 (ne _ q (by decide)) (K7_kPop r)) (fun _ => K7_ite (K7_kIn r) (K7_ite (K7_kOpenIf (K7_kOpen (K7_kMust r))) (K7_ite (K7_kOpen (K7_kClose r)) (K7_if (fun q => ?_) (fun _ => K7_ite (K7_kPub (K7_kMust r)) (K7_ite (K7_kShow (K7_kOpen r)) (K7_ite (K7_kClose r) ?_))))))))))))))))
  · have q' : S.1 4 i = 16 := (r.1 i).symm.trans q
    refine K7_kCloseIf ?_ (K7_kClose r)
    have e : (kClose X).1 5 i = S.1 5 i := by
      unfold kClose
      rw [zi_c (by decide), zi_c (by decide)]
      exact r.2.1 i (Or.inr (Or.inr q'))
    rw [e]
    exact hp.2 q'
  · refine K7_ite (K7_kPush r) (K7_ite (K7_kPush r) (K7_if (fun q => K7_kName (ne _ q (by decide)) r) (fun _ => K7_if (fun q => K7_kHead (ne _ q (by decide)) r) (fun _ => K7_if (fun q => K7_kHead (ne _ q (by decide)) r) (fun _ => K7_if (fun q => ?_) (fun _ => K7_ite (K7_kPush r) (K7_ite (K7_kMust r) (K7_ite (K7_kPush (K7_kMust r)) (K7_ite (K7_kPush (K7_kMust r)) (K7_if (fun q => K7_kSel (ne _ q (by decide)) r) (fun _ => K7_ite (K7_kUna r) (K7_if (fun q => K7_kOpr ?_ r) (fun _ => r)))))))))))))
    · have q' : S.1 4 i = 26 := (r.1 i).symm.trans q
      refine K7_z7 ?_ (K7_kMust r)
      rw [r.2.1 i (Or.inr (Or.inl q'))]
      exact hp.1 q'
    · rw [r.1 i] at q
      intro y
      rcases y with y | y | y <;> rw [y] at q <;> exact absurd q (by decide)
theorem K7_kR : ∀ (u i : Nat) (X : zS), K7 S X → (∀ x, i ≤ x → x < i + u → pj S x) → K7 S (kR b t u i X)
  | 0, i, X, h, _ => h
  | u + 1, i, X, h, hp => by
    show K7 S (if X.1 3 5 = 0 then kR b t u (i + 1) (kS b t X i) else X)
    exact K7_ite (K7_kR u (i + 1) _ (K7_kS h (hp i (Nat.le_refl _) (by omega))) (fun x q1 q2 => hp x (by omega) (by omega))) h
theorem Hx_7 {d1 d2 h1 h2 : Int} (A : Hx S i i' d1 d2 h1 h2) (h : K7 S X) : Hx X i i' d1 d2 h1 h2 := by
  obtain ⟨A0, A1, A2, A3, A4, A5, A6, A7⟩ := A
  have c1 : ∀ y, i ≤ y → y < i' → ef1 X y = ef1 S y := fun y q1 q2 => by unfold ef1; rw [h.1 y]
  have c2 : ∀ y, i ≤ y → y < i' → ef2 X y = ef2 S y := fun y q1 q2 => by
    unfold ef2
    rw [h.1 y]
    by_cases z : S.1 4 y = 30
    · rw [if_pos z, if_pos z, h.2.1 y (Or.inl z), h.2.2 _ (A4 y q1 q2 z).2.2]
    · rw [if_neg z, if_neg z]
  refine ⟨A0, by rw [hs_cong i' c1]; exact A1, by rw [hs_cong i' c2]; exact A2, fun x q1 q2 => ?_, fun x q1 q2 q3 => ?_, fun x q1 q2 => by rw [us_cong x (fun y _ _ => h.1 y)]; exact A5 x q1 q2, by rw [us_cong i' (fun y _ _ => h.1 y)]; exact A6, fun q => by rw [h.1 i]; exact A7 q⟩
  · rw [hs_cong x (fun y r1 r2 => c1 y r1 (by omega)), hs_cong x (fun y r1 r2 => c2 y r1 (by omega))]
    exact A3 x q1 q2
  · rw [h.1 x] at q3
    rw [h.2.1 x (Or.inl q3), h.1]
    exact A4 x q1 q2 q3
/-- what BUILD gets of each ITEM -/
def hxI (S : zS) (i i' p p' : Nat) : Prop := hxS S i i' p p' ∧ lnI S i i' p p' ∧ hs (e3 S) i i' = 0 ∧ ∀ x, i ≤ x → x < i' → S.1 4 x = 1 → hs (e3 S) i x ≤ 30
theorem hxI_7 {p p' : Nat} (h : hxL S i i' p p') (k : K7 S X) : hxI X i i' p p' := by
  obtain ⟨h1, ⟨h2, h3⟩, h4⟩ := h
  have c : ∀ y, e3 X y = e3 S y := fun y => by unfold e3; rw [k.1 y]
  refine ⟨Hx_7 h1 k, ⟨by rw [k.1]; exact h2, by rw [k.1]; exact h3⟩, by rw [hs_cong i' (fun y _ _ => c y)]; exact h4.2.1, fun x q1 q2 q3 => by rw [hs_cong x (fun y _ _ => c y)]; have := h4.2.2.1 x q1 q2 (by rw [← k.1 x]; exact q3); omega⟩
theorem aP_H {H H' : Nat → Nat → Nat → Nat → Prop} (hH : ∀ i i' p p', H i i' p p' → H' i i' p p') : ∀ k A vw iw i j p, aP n w D S T H k A vw iw i j p → aP n w D S T H' k A vw iw i j p
  | 0, _, _, _, _, _, _, h => h
  | k + 1, A, vw, iw, i, j, p, h => by
    obtain ⟨i0, j0, iw0, vw0, A0, p0, h0, h1, h2, h3⟩ := h
    exact ⟨i0, j0, iw0, vw0, A0, p0, aP_H hH k _ _ _ _ _ _ h0, h1, h2, hH _ _ _ _ h3⟩
theorem aP_pj {Z : zS} : ∀ k A vw iw i j p, aP n w D X T (hxL S) k A vw iw i j p → ∀ x, x < i → pj S x
  | 0, _, _, _, i, _, _, h, x, hx => absurd hx (by rw [h.1]; omega)
  | k + 1, A, vw, iw, i, j, p, h, x, hx => by
    obtain ⟨i0, j0, iw0, vw0, A0, p0, h0, h1, h2, h3⟩ := h
    by_cases z : x < i0
    · exact aP_pj (Z := Z) k _ _ _ _ _ _ h0 x z
    · exact h3.2.2.2.2.2 x (by omega) hx
theorem K7_kIni : K7 S (kIni S) := by
  unfold kIni
  exact K7_zi (by decide) (by decide) (by decide) (K7_zi (by decide) (by decide) (by decide) (K7_zi (by decide) (by decide) (by decide) (K7_zi (by decide) (by decide) (by decide) K7_rfl)))
/-- what was read and sorted, for BUILD -/
theorem aP_7 {A : Nat → Nat → Prop} {vw iw j p : Nat} (h : aP n w D (kR b t i 0 (kIni S)) T (hxL S) k A vw iw i j p) : aP n w D (kR b t i 0 (kIni S)) T (hxI (kR b t i 0 (kIni S))) k A vw iw i j p :=
  aP_H (fun _ _ _ _ q => hxI_7 q (K7_kR i 0 _ K7_kIni (fun x _ q2 => aP_pj (Z := S) _ _ _ _ _ _ _ h x (by omega)))) _ _ _ _ _ _ _ h
theorem aP_us {H : Nat → Nat → Nat → Nat → Prop} (hH : ∀ i i' p p', H i i' p p' → Hx S i i' 0 0 341 ((p' : Int) - p)) : ∀ k A vw iw i j p, aP n w D S T H k A vw iw i j p → ∀ x, x ≤ i → us S 0 x ≤ 30
  | 0, _, _, _, i, _, _, h, x, hx => by
    rw [h.1] at hx
    rw [us_le x hx]
    omega
  | k + 1, A, vw, iw, i, j, p, h, x, hx => by
    obtain ⟨i0, j0, iw0, vw0, A0, p0, h0, h1, h2, h3⟩ := h
    by_cases z : x ≤ i0
    · exact aP_us hH k _ _ _ _ _ _ h0 x z
    · have q := hH _ _ _ _ h3
      obtain ⟨-, -, -, -, -, A5, A6, A7⟩ := q
      rw [us_cut (Nat.zero_le _) (A7 (by omega)) x (by omega)]
      exact A5 x (by omega) hx
end K7S
