/-! an EXPR that begins with a sign is not alone -/
def wzb (b : Nat → Int32) (t p : Nat) : Nat := if tk b t p = 1 ∨ tk b t p = 2 ∨ 127 < tk b t p then 0 else 1
section WZZ
variable {b : Nat → Int32} {t p i i' : Nat}
theorem wzb_s (h : i + 1 < i') : i + wzb b t p < i' := by
  unfold wzb
  split <;> omega
theorem wzb_0 (h : tk b t p = 1 ∨ tk b t p = 2 ∨ 127 < tk b t p) (hi : i < i') : i + wzb b t p < i' := by
  unfold wzb
  rw [if_pos h]
  exact hi
theorem wzb_c : wzb b t p = 1 ∨ (tk b t p = 1 ∨ tk b t p = 2 ∨ 127 < tk b t p) := by
  unfold wzb
  by_cases y : tk b t p = 1 ∨ tk b t p = 2 ∨ 127 < tk b t p
  · exact Or.inr y
  · exact Or.inl (if_neg y)
/-- between two words there is a gap -/
theorem np_ne (htx : ∀ k, k < t → tx (b k)) (hp : p ≤ t) (hk : tk b t p = 1 ∨ 127 < tk b t p) (h1 : tk b t (np b t p) = 1 ∨ tk b t (np b t p) = 2 ∨ 127 < tk b t (np b t p)) : te b t p < np b t p := by
  have hn := np_ok (b := b) hp
  rcases Nat.lt_or_ge (te b t p) (np b t p) with y | y
  · exact y
  · exfalso
    have e : np b t p = te b t p := Nat.le_antisymm y hn.2.1
    rw [e] at h1
    have hle : te b t p ≤ t := te_le hp
    obtain ⟨q1, q2, q3⟩ := te_n htx hp hk
    have hpt : p < t := by have := (we_le (b := b) hp).2; omega
    have ew : we b t p = re pn b t p := by
      unfold we
      have : lk b t p = b p := if_pos hpt
      rw [this, if_pos q3]
    have ra := (re_all (P := pn) (b := b) (t := t) _ p rfl hp).2.2.2
    rw [← ew, ← q1] at ra
    have hlt : te b t p < t := by
      rcases Nat.lt_or_ge (te b t p) t with z | z
      · exact z
      · exfalso
        have : tk b t (te b t p) = 0 := if_neg (by omega)
        rw [this] at h1
        exact absurd h1 (by decide)
    have hn' : isn (b (te b t p)) := by
      rcases h1 with h1 | h1 | h1
      · exact Or.inl (te_n htx hle (Or.inl h1)).2.2
      · have := (tk_d htx hle).mpr h1
        have e2 : lk b t (te b t p) = b (te b t p) := if_pos hlt
        rw [e2] at this
        exact Or.inr this
      · exact Or.inl (te_n htx hle (Or.inr h1)).2.2
    exact ra ⟨hlt, decide_eq_true hn'⟩
end WZZ
/-! how many EXPRs wait, by the class's code alone -/
def E1 (z : Int) : Int := if z = 22 ∨ z = 23 ∨ z = 24 ∨ z = 27 ∨ z = 28 then 1 else if z = 26 ∨ z = 29 ∨ z = 33 ∨ z = 5 ∨ z = 7 ∨ z = 10 ∨ z = 12 ∨ z = 13 ∨ z = 14 ∨ z = 18 then -1 else if z = 37 then -2 else if 38 ≤ z then -1 else 0
def E2 (z : Int) : Int := if z = 22 ∨ z = 23 ∨ z = 24 then 1 else if z = 33 ∨ z = 5 ∨ z = 7 ∨ z = 10 ∨ z = 13 ∨ z = 16 then -1 else if z = 37 ∨ z = 12 ∨ z = 19 then -2 else if 38 ≤ z then -1 else 0
def ef1 (S : zS) (x : Nat) : Int := E1 (S.1 4 x).toInt
def ef2 (S : zS) (x : Nat) : Int := if S.1 4 x = 30 then 1 - ((S.1 7 (S.1 5 x).toNatClampNeg).toNatClampNeg : Int) else E2 (S.1 4 x).toInt
def hs (e : Nat → Int) (i : Nat) : Nat → Int
  | 0 => 0
  | x + 1 => if i ≤ x then hs e i x + e x else 0
theorem hs_le {e : Nat → Int} {i : Nat} : ∀ x, x ≤ i → hs e i x = 0
  | 0, _ => rfl
  | x + 1, h => by
    show (if i ≤ x then _ else (0 : Int)) = 0
    rw [if_neg (by omega)]
theorem hs_s {e : Nat → Int} {i x : Nat} (h : i ≤ x) : hs e i (x + 1) = hs e i x + e x := by
  show (if i ≤ x then _ else (0 : Int)) = _
  rw [if_pos h]
theorem hs_add {e : Nat → Int} {i m : Nat} (hm : i ≤ m) : ∀ x, m ≤ x → hs e i x = hs e i m + hs e m x
  | 0, h => by
    rw [show m = 0 by omega, hs_le 0 (Nat.le_refl _)]
    omega
  | x + 1, h => by
    by_cases z : m ≤ x
    · rw [hs_s (by omega), hs_s z, hs_add hm x z]
      omega
    · rw [show m = x + 1 by omega, hs_le (x + 1) (Nat.le_refl _)]
      omega
theorem hs_cong {e e' : Nat → Int} {i : Nat} : ∀ x, (∀ y, i ≤ y → y < x → e' y = e y) → hs e' i x = hs e i x
  | 0, _ => rfl
  | x + 1, h => by
    by_cases z : i ≤ x
    · rw [hs_s z, hs_s z, hs_cong x (fun y h1 h2 => h y h1 (by omega)), h x z (by omega)]
    · rw [hs_le _ (by omega), hs_le _ (by omega)]
/-- signs in a row before x, from i on -/
def us (S : zS) (i : Nat) : Nat → Nat
  | 0 => 0
  | x + 1 => if i ≤ x ∧ 34 ≤ S.1 4 x ∧ S.1 4 x ≤ 36 then us S i x + 1 else 0
theorem us_le {S : zS} {i : Nat} : ∀ x, x ≤ i → us S i x = 0
  | 0, _ => rfl
  | x + 1, h => by
    show (if i ≤ x ∧ _ then _ else 0) = 0
    rw [if_neg (fun y => absurd y.1 (by omega))]
theorem us_y {S : zS} {i x : Nat} (h : i ≤ x) (h2 : 34 ≤ S.1 4 x ∧ S.1 4 x ≤ 36) : us S i (x + 1) = us S i x + 1 := if_pos ⟨h, h2⟩
theorem us_n {S : zS} {i x : Nat} (h2 : ¬ (34 ≤ S.1 4 x ∧ S.1 4 x ≤ 36)) : us S i (x + 1) = 0 := if_neg (fun y => h2 y.2)
theorem us_cut {S : zS} {i m : Nat} (hm : i ≤ m) (h : ¬ (34 ≤ S.1 4 m ∧ S.1 4 m ≤ 36)) : ∀ x, m < x → us S i x = us S m x
  | 0, q => absurd q (by omega)
  | x + 1, q => by
    by_cases z : 34 ≤ S.1 4 x ∧ S.1 4 x ≤ 36
    · by_cases y : m = x
      · exact absurd (by rw [y]; exact z) h
      · rw [us_y (by omega) z, us_y (by omega) z, us_cut hm h x (by omega)]
    · rw [us_n z, us_n z]
theorem us_cong {S S' : zS} {i : Nat} : ∀ x, (∀ y, i ≤ y → y < x → S'.1 4 y = S.1 4 y) → us S' i x = us S i x
  | 0, _ => rfl
  | x + 1, h => by
    by_cases z : i ≤ x
    · show (if i ≤ x ∧ 34 ≤ S'.1 4 x ∧ S'.1 4 x ≤ 36 then us S' i x + 1 else 0) = if i ≤ x ∧ 34 ≤ S.1 4 x ∧ S.1 4 x ≤ 36 then us S i x + 1 else 0
      rw [h x z (by omega), us_cong x (fun y q1 q2 => h y q1 (by omega))]
    · rw [us_le _ (by omega), us_le _ (by omega)]
/-- no more than 30 signs in a row; behind, a row of them is short; the first is none -/
def Us (S : zS) (i i' : Nat) (h1 : Int) : Prop := (∀ x, i ≤ x → x ≤ i' → us S i x ≤ 30) ∧ 11 * (us S i i' : Int) ≤ h1 ∧ (i < i' → ¬ (34 ≤ S.1 4 i ∧ S.1 4 i ≤ 36))
theorem Us_nil {S : zS} {i : Nat} {h1 : Int} (a : 0 ≤ h1) : Us S i i h1 := ⟨fun x q1 q2 => by rw [us_le x q2]; omega, by rw [us_le i (Nat.le_refl _)]; omega, fun q => absurd q (by omega)⟩
theorem Us_app {S : zS} {i m i' : Nat} {h1 k1 H1 : Int} (A0 : i ≤ m) (B0 : m ≤ i') (A : Us S i m h1) (B : Us S m i' k1) (a1 : h1 ≤ H1) (a2 : m < i' → 11 * (us S m i' : Int) ≤ H1) : Us S i i' H1 := by
  obtain ⟨A1, A2, A3⟩ := A
  obtain ⟨B1, B2, B3⟩ := B
  refine ⟨fun x q1 q2 => ?_, ?_, fun q => ?_⟩
  · by_cases z : x ≤ m
    · exact A1 x q1 z
    · rw [us_cut A0 (B3 (by omega)) x (by omega)]
      exact B1 x (by omega) q2
  · by_cases z : m < i'
    · rw [us_cut A0 (B3 z) i' z]
      exact a2 z
    · rw [show i' = m by omega]
      omega
  · by_cases z : i < m
    · exact A3 z
    · rw [show i = m by omega]
      exact B3 (by omega)
theorem Us_n {S : zS} {i : Nat} {h1 : Int} (a : 0 ≤ h1) (h : ¬ (34 ≤ S.1 4 i ∧ S.1 4 i ≤ 36)) : Us S i (i + 1) h1 := ⟨fun x q1 q2 => by
  by_cases z : x = i
  · rw [us_le x (by omega)]; omega
  · rw [show x = i + 1 by omega, us_n h]; omega, by rw [us_n h]; omega, fun _ => h⟩
/-- from i to i' there come d1 (d2) EXPRs more, and never more than h1 (half of h2) are there -/
def Hx (S : zS) (i i' : Nat) (d1 d2 h1 h2 : Int) : Prop := i ≤ i' ∧ hs (ef1 S) i i' = d1 ∧ hs (ef2 S) i i' = d2 ∧ (∀ x, i ≤ x → x ≤ i' → hs (ef1 S) i x ≤ h1 ∧ 2 * hs (ef2 S) i x ≤ h2) ∧ (∀ x, i ≤ x → x < i' → S.1 4 x = 30 → i ≤ (S.1 5 x).toNatClampNeg ∧ (S.1 5 x).toNatClampNeg < x ∧ S.1 4 (S.1 5 x).toNatClampNeg = 28) ∧ Us S i i' h1
section HX
variable {S S' : zS} {i i' m : Nat} {d1 d2 h1 h2 e1 e2 k1 k2 H1 H2 : Int}
theorem Hx_nil (a : 0 ≤ h1) (c : 0 ≤ h2) : Hx S i i 0 0 h1 h2 := by
  refine ⟨Nat.le_refl _, hs_le _ (Nat.le_refl _), hs_le _ (Nat.le_refl _), fun x q1 q2 => ?_, fun x q1 q2 => absurd q2 (by omega), Us_nil a⟩
  rw [hs_le _ q2, hs_le _ q2]
  omega
theorem Hx_app0 (A : Hx S i m d1 d2 h1 h2) (B : Hx S m i' e1 e2 k1 k2) (a1 : h1 ≤ H1) (a2 : d1 + k1 ≤ H1) (a3 : h2 ≤ H2) (a4 : 2 * d2 + k2 ≤ H2) (a5 : m < i' → 11 * (us S m i' : Int) ≤ H1) : Hx S i i' (d1 + e1) (d2 + e2) H1 H2 := by
  obtain ⟨A0, A1, A2, A3, A4, A5⟩ := A
  obtain ⟨B0, B1, B2, B3, B4, B5⟩ := B
  refine ⟨by omega, by rw [hs_add A0 _ B0, A1, B1], by rw [hs_add A0 _ B0, A2, B2], fun x q1 q2 => ?_, fun x q1 q2 q3 => ?_, Us_app A0 B0 A5 B5 a1 a5⟩
  · by_cases z : x ≤ m
    · have := A3 x q1 z
      omega
    · have := B3 x (by omega) q2
      rw [hs_add A0 x (by omega), hs_add A0 x (by omega), A1, A2]
      omega
  · by_cases z : x < m
    · exact A4 x q1 z q3
    · have := B4 x (by omega) q2 q3
      exact ⟨by omega, this.2⟩
theorem Hx_app (A : Hx S i m d1 d2 h1 h2) (B : Hx S m i' e1 e2 k1 k2) (a1 : h1 ≤ H1) (a2 : d1 + k1 ≤ H1) (a3 : h2 ≤ H2) (a4 : 2 * d2 + k2 ≤ H2) (a5 : 0 ≤ d1 := by omega) : Hx S i i' (d1 + e1) (d2 + e2) H1 H2 :=
  Hx_app0 A B a1 a2 a3 a4 (fun _ => by have := B.2.2.2.2.2.2.1; omega)
theorem Hx_mono (A : Hx S i i' d1 d2 h1 h2) (a1 : h1 ≤ H1) (a2 : h2 ≤ H2) : Hx S i i' d1 d2 H1 H2 :=
  ⟨A.1, A.2.1, A.2.2.1, fun x q1 q2 => by have := A.2.2.2.1 x q1 q2; omega, A.2.2.2.2.1, A.2.2.2.2.2.1, by have := A.2.2.2.2.2.2.1; omega, A.2.2.2.2.2.2.2⟩
theorem Hx_eq {f1 f2 : Int} (A : Hx S i i' d1 d2 h1 h2) (a1 : d1 = f1) (a2 : d2 = f2) : Hx S i i' f1 f2 h1 h2 := by subst a1 a2; exact A
theorem Hx_cg (A : Hx S i i' d1 d2 h1 h2) (h : ∀ x, i ≤ x → x < i' → S'.1 4 x = S.1 4 x ∧ S'.1 5 x = S.1 5 x ∧ S'.1 7 x = S.1 7 x) : Hx S' i i' d1 d2 h1 h2 := by
  obtain ⟨A0, A1, A2, A3, A4, A5, A6, A7⟩ := A
  have c1 : ∀ y, i ≤ y → y < i' → ef1 S' y = ef1 S y := fun y q1 q2 => by unfold ef1; rw [(h y q1 q2).1]
  have c2 : ∀ y, i ≤ y → y < i' → ef2 S' y = ef2 S y := fun y q1 q2 => by
    unfold ef2
    rw [(h y q1 q2).1]
    by_cases z : S.1 4 y = 30
    · have hd := A4 y q1 q2 z
      rw [if_pos z, if_pos z, (h y q1 q2).2.1, (h _ hd.1 (by omega)).2.2]
    · rw [if_neg z, if_neg z]
  refine ⟨A0, by rw [hs_cong i' c1]; exact A1, by rw [hs_cong i' c2]; exact A2, fun x q1 q2 => ?_, fun x q1 q2 q3 => ?_, fun x q1 q2 => by rw [us_cong x (fun y r1 r2 => (h y r1 (by omega)).1)]; exact A5 x q1 q2, by rw [us_cong i' (fun y r1 r2 => (h y r1 r2).1)]; exact A6, fun q => by rw [(h i (Nat.le_refl _) q).1]; exact A7 q⟩
  · rw [hs_cong x (fun y r1 r2 => c1 y r1 (by omega)), hs_cong x (fun y r1 r2 => c2 y r1 (by omega))]
    exact A3 x q1 q2
  · rw [(h x q1 q2).1] at q3
    rw [(h x q1 q2).2.1]
    have z := A4 x q1 q2 q3
    exact ⟨z.1, z.2.1, by rw [(h _ z.1 (by omega)).1]; exact z.2.2⟩
theorem Hx_cgS (A : Hx S i i' d1 d2 h1 h2) (h : cgS S S' i i') : Hx S' i i' d1 d2 h1 h2 := Hx_cg A (fun x q1 q2 => ⟨(h x q1 q2).1, (h x q1 q2).2.1, (h x q1 q2).2.2.2⟩)
/-- one step that is no call -/
theorem Hx_1 {o : Int32} (ho : S.1 4 i = o) (h30 : ¬ o = 30) (g1 : E1 o.toInt = e1) (g2 : E2 o.toInt = e2) (a : 0 ≤ h1) (c : 0 ≤ h2) (a1 : e1 ≤ h1) (c1 : 2 * e2 ≤ h2) (hsg : ¬ (34 ≤ o ∧ o ≤ 36) := by decide) : Hx S i (i + 1) e1 e2 h1 h2 := by
  have f1 : hs (ef1 S) i (i + 1) = e1 := by rw [hs_s (Nat.le_refl _), hs_le _ (Nat.le_refl _)]; unfold ef1; rw [ho, g1]; omega
  have f2 : hs (ef2 S) i (i + 1) = e2 := by rw [hs_s (Nat.le_refl _), hs_le _ (Nat.le_refl _)]; unfold ef2; rw [ho, if_neg h30, g2]; omega
  refine ⟨by omega, f1, f2, fun x q1 q2 => ?_, fun x q1 q2 q3 => ?_, Us_n a (by rw [ho]; exact hsg)⟩
  · by_cases z : x = i
    · rw [z, hs_le _ (Nat.le_refl _), hs_le _ (Nat.le_refl _)]
      omega
    · rw [show x = i + 1 by omega, f1, f2]
      omega
  · rw [show x = i by omega, ho] at q3
    exact absurd q3 h30
theorem Hx_sn {o : Int32} (A : Hx S i m d1 d2 h1 h2) (ho : S.1 4 m = o) (h30 : ¬ o = 30) (g1 : E1 o.toInt = e1) (g2 : E2 o.toInt = e2) (a1 : d1 + e1 ≤ h1) (c1 : 2 * (d2 + e2) ≤ h2) (hsg : ¬ (34 ≤ o ∧ o ≤ 36) := by decide) : Hx S i (m + 1) (d1 + e1) (d2 + e2) h1 h2 := by
  have q := A.2.2.2.1 m A.1 (Nat.le_refl _)
  rw [A.2.1, A.2.2.1] at q
  have B : Hx S m (m + 1) e1 e2 (h1 - d1) (h2 - 2 * d2) := Hx_1 ho h30 g1 g2 (by omega) (by omega) (by omega) (by omega) hsg
  have q0 := (A.2.2.2.1 i (Nat.le_refl _) A.1).1
  rw [hs_le _ (Nat.le_refl _)] at q0
  exact Hx_app0 A B (Int.le_refl _) (by omega) (Int.le_refl _) (by omega) (fun _ => by rw [us_n (by rw [ho]; exact hsg)]; omega)
/-- one sign more behind an EXPR -/
theorem Hx_sg {o : Int32} (A : Hx S i m d1 d2 h1 h2) (ho : S.1 4 m = o) (h30 : ¬ o = 30) (g1 : E1 o.toInt = 0) (g2 : E2 o.toInt = 0) (hsg : 34 ≤ o ∧ o ≤ 36) (hd : ¬ d1 = 0) (hh : h1 ≤ 329) (hH : h1 + 11 ≤ H1) : Hx S i (m + 1) d1 d2 H1 h2 := by
  obtain ⟨A0, A1, A2, A3, A4, A5, A6, A7⟩ := A
  have hi : i < m := by
    rcases Nat.lt_or_ge i m with y | y
    · exact y
    · rw [hs_le _ y] at A1
      omega
  have f1 : ef1 S m = 0 := by unfold ef1; rw [ho, g1]
  have f2 : ef2 S m = 0 := by unfold ef2; rw [ho, if_neg h30, g2]
  have sg : 34 ≤ S.1 4 m ∧ S.1 4 m ≤ 36 := by rw [ho]; exact hsg
  have z := A3 m A0 (Nat.le_refl _)
  rw [A1, A2] at z
  refine ⟨by omega, by rw [hs_s A0, A1, f1]; omega, by rw [hs_s A0, A2, f2]; omega, fun x q1 q2 => ?_, fun x q1 q2 q3 => ?_, fun x q1 q2 => ?_, by rw [us_y A0 sg]; omega, fun _ => A7 hi⟩
  · by_cases y : x ≤ m
    · have := A3 x q1 y
      omega
    · rw [show x = m + 1 by omega, hs_s A0, hs_s A0, A1, A2, f1, f2]
      omega
  · by_cases y : x < m
    · exact A4 x q1 y q3
    · rw [show x = m by omega, ho] at q3
      exact absurd q3 h30
  · by_cases y : x ≤ m
    · exact A5 x q1 y
    · rw [show x = m + 1 by omega, us_y A0 sg]
      omega
theorem Hx_cs {o : Int32} (ho : S.1 4 i = o) (h30 : ¬ o = 30) (g1 : E1 o.toInt = 0) (g2 : E2 o.toInt = 0) (A : Hx S (i + 1) i' d1 d2 h1 h2) (a : 0 ≤ h1) (c : 0 ≤ h2) (hsg : ¬ (34 ≤ o ∧ o ≤ 36) := by decide) : Hx S i i' d1 d2 h1 h2 :=
  Hx_eq (Hx_app (Hx_1 (e1 := 0) (e2 := 0) (h1 := h1) (h2 := h2) ho h30 g1 g2 a c a (by omega) hsg) A (Int.le_refl _) (by omega) (Int.le_refl _) (by omega)) (by omega) (by omega)
theorem E_bsg {o : Nat} (h1 : 1 ≤ o) (h2 : o ≤ 18) : ¬ (34 ≤ nI (37 + o) ∧ nI (37 + o) ≤ 36) := fun y => nI_ge (a := 36) (b := 37 + o) (by omega) (by omega) y.2
theorem E_bin {o : Nat} (h1 : 1 ≤ o) (h2 : o ≤ 18) : ¬ nI (37 + o) = 30 ∧ E1 (nI (37 + o)).toInt = -1 ∧ E2 (nI (37 + o)).toInt = -1 := by
  have e := nI_toInt (n := 37 + o) (by omega)
  refine ⟨fun y => ?_, ?_, ?_⟩
  · exact absurd ((nI_eq (a := 37 + o) (b := 30) (by omega) (by omega)).mp y) (by omega)
  · rw [e]; unfold E1
    rw [if_neg (by omega), if_neg (by omega), if_neg (by omega), if_pos (by omega)]
  · rw [e]; unfold E2
    rw [if_neg (by omega), if_neg (by omega), if_neg (by omega), if_pos (by omega)]
/-- a call whose EXPRs are there -/
theorem Hx_cn (ho : S.1 4 i = 28) (A : Hx S (i + 1) i' 0 d2 h1 h2) (a : 0 ≤ h1) (c : 0 ≤ h2) (hh : h1 + 1 ≤ H1) : Hx S i i' 1 d2 H1 h2 :=
  Hx_eq (Hx_app (Hx_1 (e1 := 1) (e2 := 0) (h1 := H1) (h2 := h2) ho (by decide) (by decide) (by decide) (by omega) c (by omega) (by omega)) A (Int.le_refl _) (by omega) (Int.le_refl _) (by omega)) (by omega) (by omega)
theorem Hx_ca {a : Nat} (A : Hx S i m 1 a h1 h2) (ho : S.1 4 m = 30) (h5 : S.1 5 m = nI i) (h7 : S.1 7 i = nI a) (h28 : S.1 4 i = 28) (hi : i < m) (hb : i < 4000) (ha : a < 4000) (a1 : 1 ≤ h1) (c1 : 2 ≤ h2) : Hx S i (m + 1) 1 1 h1 h2 := by
  have f1 : ef1 S m = 0 := by unfold ef1; rw [ho]; rfl
  have f2 : ef2 S m = 1 - (a : Int) := by unfold ef2; rw [if_pos ho, h5, nI_clamp (by omega), h7, nI_clamp (by omega)]
  obtain ⟨A0, A1, A2, A3, A4, A5⟩ := A
  refine ⟨by omega, by rw [hs_s A0, A1, f1]; omega, by rw [hs_s A0, A2, f2]; omega, fun x q1 q2 => ?_, fun x q1 q2 q3 => ?_, Us_app A0 (Nat.le_succ _) A5 (Us_n (h1 := h1) (by omega) (by rw [ho]; decide)) (Int.le_refl _) (fun _ => by rw [us_n (by rw [ho]; decide)]; omega)⟩
  · by_cases z : x ≤ m
    · exact A3 x q1 z
    · rw [show x = m + 1 by omega, hs_s A0, hs_s A0, A1, A2, f1, f2]
      omega
  · by_cases z : x < m
    · exact A4 x q1 z q3
    · rw [show x = m by omega, h5, nI_clamp (by omega)]
      exact ⟨by omega, by omega, h28⟩
end HX
abbrev hxF (S : zS) (i i' dp p p' : Nat) : Prop := Hx S i i' 1 1 (331 - 11 * (dp : Int)) ((p' : Int) - p + 1)
abbrev hxE (S : zS) (i i' dp p p' : Nat) : Prop := Hx S i i' 1 1 (341 - 11 * (dp : Int)) ((p' : Int) - p + 1)
section HXC
variable {b : Nat → Int32} {t : Nat} {S S' : zS} {i i' m : Nat} {d1 d2 h1 h2 : Int}
theorem Hx_0 (A : Hx S i i' d1 d2 h1 h2) (h : cgS S S' 0 m) (hm : i' ≤ m) : Hx S' i i' d1 d2 h1 h2 := Hx_cgS A (fun x _ q2 => h x (Nat.zero_le _) (by omega))
theorem Hx_wS {p : Nat} (A : Hx S i i' d1 d2 h1 h2) : Hx (wS b t p S) i i' d1 d2 h1 h2 := Hx_cg A (fun x _ _ => by
  unfold wS
  exact ⟨by rw [zi_c (by decide), zi_c (by decide), zi_c (by decide)], by rw [zi_c (by decide), zi_c (by decide), zi_c (by decide)], by rw [zi_c (by decide), zi_c (by decide), zi_c (by decide)]⟩)
theorem Hx_cA {i0 : Nat} {x1 x2 x3 x4 : Int32} (A : Hx S i i' d1 d2 h1 h2) (h : i' ≤ i0) : Hx (cA S i0 x1 x2 x3 x4) i i' d1 d2 h1 h2 := Hx_cgS A (fun x _ q2 => cA_o (by omega))
theorem hx_lf {o : Int32} {dp p p' : Nat} (ho : S.1 4 i = o) (hc : o = 22 ∨ o = 23 ∨ o = 24) (hd : dp ≤ 30) (hp : p < p') : hxF S i (i + 1) dp p p' := by
  rcases hc with rfl | rfl | rfl
  · exact Hx_1 ho (by decide) (by decide) (by decide) (by omega) (by omega) (by omega) (by omega)
  · exact Hx_1 ho (by decide) (by decide) (by decide) (by omega) (by omega) (by omega) (by omega)
  · exact Hx_1 ho (by decide) (by decide) (by decide) (by omega) (by omega) (by omega) (by omega)
end HXC
theorem Hx_st {i0 : Nat} {h1 h2 : Int} : ∀ (y : Nat) (S : zS) (i v : Nat) {d1 d2 : Int}, (∀ k, k < y → ∃ o, 1 ≤ o ∧ o ≤ 18 ∧ S.1 35 (v - 1 - k) = nI (37 + o)) → y ≤ v → Hx S i0 i d1 d2 h1 h2 → Hx (cSt y S i v) i0 (i + y) (d1 - y) (d2 - y) h1 h2
  | 0, S, i, v, d1, d2, _, _, A => Hx_eq A (by omega) (by omega)
  | y + 1, S, i, v, d1, d2, ho, hv, A => by
    obtain ⟨o, o1, o2, e⟩ := ho 0 (by omega)
    rw [Nat.sub_zero] at e
    obtain ⟨x30, x1, x2⟩ := E_bin o1 o2
    have q := A.2.2.2.1 i A.1 (Nat.le_refl _)
    rw [A.2.1, A.2.2.1] at q
    have A1 : Hx (zi S 34 9 (nI (v - 1))) i0 i d1 d2 h1 h2 := Hx_cg A (fun x _ _ => ⟨zi_c (by decide), zi_c (by decide), zi_c (by decide)⟩)
    have r := cA_r (S := zi S 34 9 (nI (v - 1))) (i0 := i) (x1 := S.1 35 (v - 1)) (x2 := 0) (x3 := S.1 36 (v - 1)) (x4 := S.1 37 (v - 1))
    have A2 := Hx_sn (e1 := -1) (e2 := -1) (Hx_cA (i0 := i) (x1 := S.1 35 (v - 1)) (x2 := 0) (x3 := S.1 36 (v - 1)) (x4 := S.1 37 (v - 1)) A1 (Nat.le_refl _)) (r.1.trans e) x30 x1 x2 (by omega) (by omega) (E_bsg o1 o2)
    have B := Hx_st y _ (i + 1) (v - 1) (fun k hk => by
      obtain ⟨o', q1, q2, q3⟩ := ho (k + 1) (by omega)
      refine ⟨o', q1, q2, ?_⟩
      rw [cA_c (by decide), zi_c (by decide), show v - 1 - 1 - k = v - 1 - (k + 1) by omega]
      exact q3) (by omega) A2
    rw [show i + (y + 1) = i + 1 + y by omega]
    exact Hx_eq B (by omega) (by omega)

/-- a statement's -/
abbrev hxS (S : zS) (i i' p p' : Nat) : Prop := Hx S i i' 0 0 341 ((p' : Int) - p)
theorem hx_as {S : zS} {i i3 i5 p p' p3 p4 p5 dp : Nat} {el : Bool} {K : Int32} (hK : K = if el then 12 else 10) (A : Hx S i i3 0 (if el then 1 else 0) 341 ((p3 : Int) - p)) (B : Hx S i3 i5 1 1 (341 - 11 * (dp : Int)) ((p5 : Int) - p4 + 1)) (ho : S.1 4 i5 = K) (h1 : p < p3) (h2 : p3 < p4) (h3 : p4 ≤ p5) (h4 : p5 < p') : hxS S i (i5 + 1) p p' := by
  cases el with
  | true =>
    rw [if_pos rfl] at hK A
    exact Hx_eq (Hx_sn (e1 := -1) (e2 := -2) (Hx_app A B (H1 := 341) (H2 := (p' : Int) - p) (by omega) (by omega) (by omega) (by omega)) (ho.trans hK) (by decide) (by decide) (by decide) (by omega) (by omega)) (by omega) (by omega)
  | false =>
    rw [if_neg (by decide)] at hK A
    exact Hx_eq (Hx_sn (e1 := -1) (e2 := -1) (Hx_app A B (H1 := 341) (H2 := (p' : Int) - p) (by omega) (by omega) (by omega) (by omega)) (ho.trans hK) (by decide) (by decide) (by decide) (by omega) (by omega)) (by omega) (by omega)
theorem hx_par {S : zS} {i : Nat} {h1 h2 : Int} (a1 : 0 ≤ h1) (a2 : 0 ≤ h2) : ∀ k, (∀ a, a < k → S.1 4 (i + a) = 4) → Hx S i (i + k) 0 0 h1 h2
  | 0, _ => Hx_nil a1 a2
  | k + 1, h => Hx_sn (e1 := 0) (e2 := 0) (hx_par a1 a2 k (fun a ha => h a (by omega))) (h k (by omega)) (by decide) (by decide) (by decide) (by omega) (by omega)
