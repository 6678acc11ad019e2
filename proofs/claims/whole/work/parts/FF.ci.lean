/-! inputs cut into shares, on both sides -/
/-- draws behind j bits of owner o, from draw i on -/
def bNj (q : Nat) (Qs : Nat → Int32) (s : Int32) (n o i : Nat) : Nat → Nat
  | 0 => i
  | j + 1 => (dBut q Qs s (fun p => decide (p = o)) n 0 (bNj q Qs s n o i j) 0).2
/-- draws behind a inputs -/
def aNj (q : Nat) (Qs : Nat → Int32) (s : Int32) (n : Nat) (ow bt : Nat → Nat) (i : Nat) : Nat → Nat
  | 0 => i
  | a + 1 => bNj q Qs s n (ow a) (aNj q Qs s n ow bt i a) (bt a)
def shX (x : Int32) (o v : Nat) : Int32 := x ||| ((par x ^^^ nI v) <<< (nI o &&& 31))
/-- the shares of input a's bit j -/
def shI (q : Nat) (Qs : Nat → Int32) (s : Int32) (n : Nat) (ow bt vm : Nat → Nat) (i a j : Nat) : Int32 := shX (dBut q Qs s (fun p => decide (p = ow a)) n 0 (bNj q Qs s n (ow a) (aNj q Qs s n ow bt i a) j) 0).1 (ow a) (vm a / 2 ^ j % 2)
def Wb (bt : Nat → Nat) : Nat → Nat
  | 0 => 0
  | a + 1 => Wb bt a + bt a
theorem Wb_le {bt : Nat → Nat} {a' : Nat} : ∀ {a}, a' < a → Wb bt a' + bt a' ≤ Wb bt a
  | 0, h => absurd h (Nat.not_lt_zero _)
  | a + 1, h => by
    show _ ≤ Wb bt a + bt a
    by_cases z : a' = a
    · rw [z]
      exact Nat.le_refl _
    · have := Wb_le (bt := bt) (a' := a') (a := a) (by omega)
      omega
theorem Wb_ex {bt : Nat → Nat} : ∀ m t, t < Wb bt m → ∃ a j, a < m ∧ j < bt a ∧ t = Wb bt a + j
  | 0, t, h => absurd h (Nat.not_lt_zero _)
  | m + 1, t, h => by
    by_cases z : t < Wb bt m
    · obtain ⟨a, j, h1, h2, h3⟩ := Wb_ex m t z
      exact ⟨a, j, by omega, h2, h3⟩
    · have h' : t < Wb bt m + bt m := h
      exact ⟨m, t - Wb bt m, by omega, by omega, by omega⟩
def FCi (S S' : zS) : Prop := (∀ c k, ¬ (c = 59 ∧ (k = 3 ∨ k = 4)) → ¬ c = 64 → S'.1 c k = S.1 c k) ∧ ∀ c k, S'.2 c k = S.2 c k
def FMi (S S' : zS) : Prop := (∀ c k, ¬ (c = 73 ∧ (120 ≤ k ∧ k ≤ 122)) → ¬ c = 151 → S'.1 c k = S.1 c k) ∧ ∀ c k, S'.2 c k = S.2 c k
/-- what the class has of its inputs -/
def IDc (n w iw : Nat) (ow bt vm : Nat → Nat) (S : zS) : Prop := iw ≤ 256 ∧ Wb bt iw ≤ 256 * w ∧ S.1 17 6 = nI iw ∧ ∀ a, a < iw → ow a < n ∧ bt a ≤ w ∧ vm a < 2 ^ bt a ∧ S.1 18 a = nI (ow a) ∧ S.1 19 a = nI (bt a) ∧ S.1 20 a = nI (Wb bt a) ∧ S.1 22 a = nI (vm a)
def IDm (n w iw : Nat) (ow bt vm : Nat → Nat) (S : zS) : Prop := iw ≤ 256 ∧ Wb bt iw ≤ 256 * w ∧ S.1 73 75 = nI iw ∧ ∀ a, a < iw → ow a < n ∧ bt a ≤ w ∧ vm a < 2 ^ bt a ∧ S.1 115 a = nI (ow a) ∧ S.1 116 a = nI (bt a) ∧ S.1 117 a = nI (Wb bt a) ∧ S.2 119 a = lN (vm a)
section CUT
variable {l : Launch} {Gr : zG} {n w d q fi i i0 iw a o : Nat} {S S0 S' : zS} {s x : Int32} {Qs : Nat → Int32} {ow bt vm : Nat → Nat} {Q : Option Value → zS → Prop}
theorem le_o (hn : n ≤ 16) (ho : o < n) : ∀ p, p < n → ((fun p : Nat => decide (p = o)) p = true ↔ nI p = nI o) := fun p hp => ⟨fun y => by rw [of_decide_eq_true y], fun y => decide_eq_true ((nI_eq (by omega) (by omega)).mp y)⟩
theorem pw_lt {m b : Nat} (h : m < 2 ^ b) (hb : b ≤ 32) : m < 2 ^ 32 := Nat.lt_of_lt_of_le h (Nat.pow_le_pow_right (by omega) hb)
theorem ci_20 (hg : ip_gk (lg_tbl, vwCl, Gr)) (hn : n ≤ 16) (hw : w ≤ 32) (hI : IDc n w iw ow bt vm S0) (ha : a < iw) (kk : ∀ S', DCq q Qs s (aNj q Qs s n ow bt i0 (a + 1)) S' → FCi S0 S' → (∀ a' j', a' < a + 1 → j' < bt a' → S'.1 64 (Wb bt a' + j') = shI q Qs s n ow bt vm i0 a' j') → zW l Gr (zc n w) 168 M_Dealer_cutInputs (d + 2) 2 [some (.ref 91), some (.ref 49), some (.int (nI (a + 1))), none, none, none, none] [] S' Q) : ∀ c j S, j + c = bt a → DCq q Qs s (bNj q Qs s n (ow a) (aNj q Qs s n ow bt i0 a) j) S → FCi S0 S → (∀ a' j', a' < a → j' < bt a' → S.1 64 (Wb bt a' + j') = shI q Qs s n ow bt vm i0 a' j') → (∀ j', j' < j → S.1 64 (Wb bt a + j') = shI q Qs s n ow bt vm i0 a j') → zW l Gr (zc n w) 168 M_Dealer_cutInputs (d + 2) 20 [some (.ref 91), some (.ref 49), some (.int (nI a)), some (.int (nI (ow a))), some (.int (nI j)), none, none] [] S Q
  | 0, j, S, h, hD, hF, h1, h2 => by
    obtain ⟨i1, i2, i3, i4⟩ := hI
    obtain ⟨o1, o2, o3, o4, o5, o6, o7⟩ := i4 a ha
    have ck : (nI a).toNatClampNeg = a := nI_clamp (by omega)
    have ej : j = bt a := by omega
    refine b_Dealer_cutInputs_r49_20 (vp_in_nI (by omega) (by omega)) (fun _ => b_Dealer_cutInputs_r49_101 ?_) (fun y => absurd (by rw [ck, hF.1 19 a (by omega) (by omega), o5]; exact nI_le (by omega) (by omega)) y)
    rw [show nI a + Int32.ofInt 1 = nI (a + 1) from nI_add a 1]
    refine kk S (by rw [ej] at hD; exact hD) hF (fun a' j' q1 q2 => ?_)
    by_cases z : a' = a
    · rw [z] at q2 ⊢
      exact h2 j' (by omega)
    · exact h1 a' j' (by omega) q2
  | c + 1, j, S, h, hD, hF, h1, h2 => by
    have hI' := hI
    obtain ⟨i1, i2, i3, i4⟩ := hI'
    obtain ⟨o1, o2, o3, o4, o5, o6, o7⟩ := i4 a ha
    have ck : (nI a).toNatClampNeg = a := nI_clamp (by omega)
    have va : vp_in (nI a) 256 := vp_in_nI (by omega) (by omega)
    have hWa := Wb_le (bt := bt) ha
    refine b_Dealer_cutInputs_r49_20 va (fun y => absurd y (by rw [ck, hF.1 19 a (by omega) (by omega), o5]; exact nI_ge (by omega) (by omega))) (fun _ => b_Dealer_cutInputs_r49_31 va (fun y => absurd y (by rw [ck, hF.1 20 a (by omega) (by omega), o6, nI_add]; exact nI_ge (by omega) (by omega))) (fun _ => b_Dealer_cutInputs_r49_48 hg (w_dbut hg hn (le_o hn o1) hD) (fun v S1 e1 => ?_)))
    obtain ⟨rfl, d1, f1⟩ := e1
    refine b_Dealer_cutInputs_r49_53 hg (w_par hg) (fun v S1' e => ?_)
    obtain ⟨rfl, rfl⟩ := e
    have e20 : S1'.1 20 a = nI (Wb bt a) := by rw [f1.1 20 a (by omega), hF.1 20 a (by omega) (by omega), o6]
    have e22 : S1'.1 22 a = nI (vm a) := by rw [f1.1 22 a (by omega), hF.1 22 a (by omega) (by omega), o7]
    refine b_Dealer_cutInputs_r49_60 va (by rw [ck, e20, nI_add]; exact vp_in_nI (by omega) (by omega)) ?_
    rw [ck, e20, nI_add, nI_clamp (by omega), e22, bit_i (by omega) (pw_lt o3 (by omega)), show nI j + Int32.ofInt 1 = nI (j + 1) from nI_add j 1]
    refine ci_20 hg hn hw hI ha kk c (j + 1) _ (by omega) (DCq_zi d1 (by decide) (by decide)) ⟨fun c' k' q1 q2 => ?_, fun c' k' => (f1.2 c' k').trans (hF.2 c' k')⟩ (fun a' j' q1 q2 => ?_) (fun j' q1 => ?_)
    · rw [zi_get, if_neg (by omega), f1.1 c' k' q1]
      exact hF.1 c' k' q1 q2
    · have := Wb_le (bt := bt) q1
      rw [zi_k (by omega), f1.1 64 _ (by omega)]
      exact h1 a' j' q1 q2
    · by_cases z : j' = j
      · rw [z, zi_v]
        rfl
      · rw [zi_k (by omega), f1.1 64 _ (by omega)]
        exact h2 j' (by omega)
theorem ci_2 (hg : ip_gk (lg_tbl, vwCl, Gr)) (hn : n ≤ 16) (hw : w ≤ 32) (hI : IDc n w iw ow bt vm S0) (kk : ∀ S', DCq q Qs s (aNj q Qs s n ow bt i0 iw) S' → FCi S0 S' → (∀ a' j', a' < iw → j' < bt a' → S'.1 64 (Wb bt a' + j') = shI q Qs s n ow bt vm i0 a' j') → Q none S') : ∀ c a S, a + c = iw → DCq q Qs s (aNj q Qs s n ow bt i0 a) S → FCi S0 S → (∀ a' j', a' < a → j' < bt a' → S.1 64 (Wb bt a' + j') = shI q Qs s n ow bt vm i0 a' j') → zW l Gr (zc n w) 168 M_Dealer_cutInputs (d + 2) 2 [some (.ref 91), some (.ref 49), some (.int (nI a)), none, none, none, none] [] S Q
  | 0, a, S, h, hD, hF, h1 => by
    have e6 : S.1 17 6 = nI iw := (hF.1 17 6 (by omega) (by omega)).trans hI.2.2.1
    have ea : a = iw := by omega
    have hi := hI.1
    subst ea
    exact b_Dealer_cutInputs_r49_2 (fun _ => b_Dealer_cutInputs_r49_107 (kk S hD hF h1)) (fun y => absurd (by rw [e6]; exact nI_le (Nat.le_refl _) (by omega)) y)
  | c + 1, a, S, h, hD, hF, h1 => by
    have e6 : S.1 17 6 = nI iw := (hF.1 17 6 (by omega) (by omega)).trans hI.2.2.1
    have hi := hI.1
    have o4 := (hI.2.2.2 a (by omega)).2.2.2.1
    have ck : (nI a).toNatClampNeg = a := nI_clamp (by omega)
    refine b_Dealer_cutInputs_r49_2 (fun y => absurd y (by rw [e6]; exact nI_ge (by omega) (by omega))) (fun _ => b_Dealer_cutInputs_r49_10 (vp_in_nI (by omega) (by omega)) ?_)
    rw [ck, hF.1 18 a (by omega) (by omega), o4]
    exact ci_20 hg hn hw hI (by omega) (fun S' a1 a2 a3 => ci_2 hg hn hw hI kk c (a + 1) S' (by omega) a1 a2 a3) (bt a) 0 S (by omega) hD hF h1 (fun j' hj => absurd hj (Nat.not_lt_zero _))
/-- cutInputs() of the class -/
theorem w_ci (hg : ip_gk (lg_tbl, vwCl, Gr)) (hn : n ≤ 16) (hw : w ≤ 32) (hI : IDc n w iw ow bt vm S) (hD : DCq q Qs s i0 S) : zMv l Gr (zc n w) 168 M_Dealer_cutInputs (d + 2) [.ref 91, .ref 49] S (fun S' => DCq q Qs s (aNj q Qs s n ow bt i0 iw) S' ∧ FCi S S' ∧ ∀ a' j', a' < iw → j' < bt a' → S'.1 64 (Wb bt a' + j') = shI q Qs s n ow bt vm i0 a' j') :=
  e_Dealer_cutInputs_r49 (b_Dealer_cutInputs_r49_0 (ci_2 hg hn hw hI (fun S' a1 a2 a3 => ⟨rfl, a1, a2, a3⟩) iw 0 S (by omega) hD ⟨fun _ _ _ _ => rfl, fun _ _ => rfl⟩ (fun a' j' h => absurd h (Nat.not_lt_zero _))))
theorem mi_12 (hg : ip_gk (lg_tbl, vwCl, Gr)) (hn : n ≤ 16) (hw : w ≤ 32) (hI : IDm n w iw ow bt vm S0) (ha : a < iw) (kk : ∀ S', DMq q fi Qs s (aNj q Qs s n ow bt i0 (a + 1)) S' → FMi S0 S' → (∀ a' j', a' < a + 1 → j' < bt a' → S'.1 151 (Wb bt a' + j') = shI q Qs s n ow bt vm i0 a' j') → zW l Gr (zc n w) 168 M_Mo_shareAll (d + 2) 2 [some (.ref 105), some (.int (nI (a + 1))), none, none, none, none] [] S' Q) : ∀ c j S, j + c = bt a → DMq q fi Qs s (bNj q Qs s n (ow a) (aNj q Qs s n ow bt i0 a) j) S → FMi S0 S → (∀ a' j', a' < a → j' < bt a' → S.1 151 (Wb bt a' + j') = shI q Qs s n ow bt vm i0 a' j') → (∀ j', j' < j → S.1 151 (Wb bt a + j') = shI q Qs s n ow bt vm i0 a j') → zW l Gr (zc n w) 168 M_Mo_shareAll (d + 2) 12 [some (.ref 105), some (.int (nI a)), some (.int (nI j)), none, none, none] [] S Q
  | 0, j, S, h, hD, hF, h1, h2 => by
    obtain ⟨i1, i2, i3, i4⟩ := hI
    obtain ⟨o1, o2, o3, o4, o5, o6, o7⟩ := i4 a ha
    have ck : (nI a).toNatClampNeg = a := nI_clamp (by omega)
    have ej : j = bt a := by omega
    refine b_Mo_shareAll_12 (vp_in_nI (by omega) (by omega)) (fun _ => b_Mo_shareAll_117 ?_) (fun y => absurd (by rw [ck, hF.1 116 a (by omega) (by omega), o5]; exact nI_le (by omega) (by omega)) y)
    rw [show nI a + Int32.ofInt 1 = nI (a + 1) from nI_add a 1]
    refine kk S (by rw [ej] at hD; exact hD) hF (fun a' j' q1 q2 => ?_)
    by_cases z : a' = a
    · rw [z] at q2 ⊢
      exact h2 j' (by omega)
    · exact h1 a' j' (by omega) q2
  | c + 1, j, S, h, hD, hF, h1, h2 => by
    have hI' := hI
    obtain ⟨i1, i2, i3, i4⟩ := hI'
    obtain ⟨o1, o2, o3, o4, o5, o6, o7⟩ := i4 a ha
    have ck : (nI a).toNatClampNeg = a := nI_clamp (by omega)
    have va : vp_in (nI a) 256 := vp_in_nI (by omega) (by omega)
    have hWa := Wb_le (bt := bt) ha
    refine b_Mo_shareAll_12 va (fun y => absurd y (by rw [ck, hF.1 116 a (by omega) (by omega), o5]; exact nI_ge (by omega) (by omega))) (fun _ => b_Mo_shareAll_22 va ?_)
    rw [ck, hF.1 115 a (by omega) (by omega), o4]
    refine md_35 hg hn (le_o hn o1) n 0 _ 0 S (by omega) hD (fun S1 d1 f1 => b_Mo_shareAll_72 hg va (wm_pary hg) (fun v S1' e => ?_))
    obtain ⟨rfl, rfl⟩ := e
    have e117 : S1'.1 117 a = nI (Wb bt a) := by rw [f1.1 117 a (by omega), hF.1 117 a (by omega) (by omega), o6]
    have e119 : S1'.2 119 a = lN (vm a) := by rw [f1.2 119 a, hF.2 119 a, o7]
    refine b_Mo_shareAll_104 (by rw [ck, e117, nI_add]; exact vp_in_nI (by omega) (by omega)) ?_
    rw [ck, e117, nI_add, nI_clamp (by omega), e119, bit_l (by omega) (pw_lt o3 (by omega)), show nI j + Int32.ofInt 1 = nI (j + 1) from nI_add j 1]
    refine mi_12 hg hn hw hI ha kk c (j + 1) _ (by omega) (DMq_zi d1 (by decide) (by decide)) ⟨fun c' k' q1 q2 => ?_, fun c' k' => (f1.2 c' k').trans (hF.2 c' k')⟩ (fun a' j' q1 q2 => ?_) (fun j' q1 => ?_)
    · rw [zi_get, if_neg (by omega), f1.1 c' k' q1]
      exact hF.1 c' k' q1 q2
    · have := Wb_le (bt := bt) q1
      rw [zi_k (by omega), f1.1 151 _ (by omega)]
      exact h1 a' j' q1 q2
    · by_cases z : j' = j
      · rw [z, zi_v]
        rfl
      · rw [zi_k (by omega), f1.1 151 _ (by omega)]
        exact h2 j' (by omega)
/-- the inputs' shares of the reference -/
theorem mi_2 (hg : ip_gk (lg_tbl, vwCl, Gr)) (hn : n ≤ 16) (hw : w ≤ 32) (hI : IDm n w iw ow bt vm S0) (kk : ∀ S', DMq q fi Qs s (aNj q Qs s n ow bt i0 iw) S' → FMi S0 S' → (∀ a' j', a' < iw → j' < bt a' → S'.1 151 (Wb bt a' + j') = shI q Qs s n ow bt vm i0 a' j') → zW l Gr (zc n w) 168 M_Mo_shareAll (d + 2) 123 [some (.ref 105), none, none, none, none, none] [] S' Q) : ∀ c a S, a + c = iw → DMq q fi Qs s (aNj q Qs s n ow bt i0 a) S → FMi S0 S → (∀ a' j', a' < a → j' < bt a' → S.1 151 (Wb bt a' + j') = shI q Qs s n ow bt vm i0 a' j') → zW l Gr (zc n w) 168 M_Mo_shareAll (d + 2) 2 [some (.ref 105), some (.int (nI a)), none, none, none, none] [] S Q
  | 0, a, S, h, hD, hF, h1 => by
    have e6 : S.1 73 75 = nI iw := (hF.1 73 75 (by omega) (by omega)).trans hI.2.2.1
    have ea : a = iw := by omega
    have hi := hI.1
    subst ea
    exact b_Mo_shareAll_2 (fun _ => kk S hD hF h1) (fun y => absurd (by rw [e6]; exact nI_le (Nat.le_refl _) (by omega)) y)
  | c + 1, a, S, h, hD, hF, h1 => by
    have e6 : S.1 73 75 = nI iw := (hF.1 73 75 (by omega) (by omega)).trans hI.2.2.1
    have hi := hI.1
    refine b_Mo_shareAll_2 (fun y => absurd y (by rw [e6]; exact nI_ge (by omega) (by omega))) (fun _ => b_Mo_shareAll_10 ?_)
    exact mi_12 hg hn hw hI (by omega) (fun S' a1 a2 a3 => mi_2 hg hn hw hI kk c (a + 1) S' (by omega) a1 a2 a3) (bt a) 0 S (by omega) hD hF h1 (fun j' hj => absurd hj (Nat.not_lt_zero _))
end CUT
