/-! ANDs by levels: how many, where -/
def cL (an : Nat → Bool) (lv : Nat → Nat) (L : Nat) : Nat → Nat
  | 0 => 0
  | k + 1 => cL an lv L k + (if an k = true ∧ lv k = L then 1 else 0)
def sL (an : Nat → Bool) (lv : Nat → Nat) (L : Nat) : Nat → Nat
  | 0 => 0
  | k + 1 => sL an lv L k + (if an k = true ∧ lv k < L then 1 else 0)
section LVS
variable {l : Launch} {Gr : zG} {n w d : Nat} {A A0 T B : zS} {an : Nat → Bool} {lv : Nat → Nat} {L L' g k x y m : Nat} {Q : Option Value → zS → Prop}
theorem cL_n (h : ¬ (an k = true ∧ lv k = L)) : cL an lv L (k + 1) = cL an lv L k := by
  show cL an lv L k + (if an k = true ∧ lv k = L then 1 else 0) = _
  rw [if_neg h]
  rfl
theorem cL_y (h : an k = true) (h2 : lv k = L) : cL an lv L (k + 1) = cL an lv L k + 1 := by
  show cL an lv L k + (if an k = true ∧ lv k = L then 1 else 0) = _
  rw [if_pos ⟨h, h2⟩]
theorem sL_s : ∀ g, sL an lv (L + 1) g = sL an lv L g + cL an lv L g
  | 0 => rfl
  | g + 1 => by
    show sL an lv (L + 1) g + (if an g = true ∧ lv g < L + 1 then 1 else 0) = sL an lv L g + (if an g = true ∧ lv g < L then 1 else 0) + (cL an lv L g + (if an g = true ∧ lv g = L then 1 else 0))
    rw [sL_s g]
    by_cases z : an g = true
    · by_cases q : lv g < L
      · rw [if_pos ⟨z, by omega⟩, if_pos ⟨z, q⟩, if_neg (fun y => absurd y.2 (by omega))]
        omega
      · by_cases q2 : lv g = L
        · rw [if_pos ⟨z, by omega⟩, if_neg (fun y => absurd y.2 q), if_pos ⟨z, q2⟩]
          omega
        · rw [if_neg (fun y => absurd y.2 (by omega)), if_neg (fun y => absurd y.2 q), if_neg (fun y => absurd y.2 q2)]
          omega
    · rw [if_neg (fun y => z y.1), if_neg (fun y => z y.1), if_neg (fun y => z y.1)]
      omega
theorem sL_le : ∀ g, sL an lv L g ≤ g
  | 0 => Nat.le_refl _
  | g + 1 => by
    have := sL_le g
    show sL an lv L g + (if _ then 1 else 0) ≤ g + 1
    split <;> omega
theorem sL_mo : ∀ c, sL an lv L g ≤ sL an lv (L + c) g
  | 0 => Nat.le_refl _
  | c + 1 => by
    have := sL_mo c
    have e := sL_s (an := an) (lv := lv) (L := L + c) g
    rw [← Nat.add_assoc, e]
    omega
theorem sL_0 : ∀ g, sL an lv 0 g = 0
  | 0 => rfl
  | g + 1 => by
    show sL an lv 0 g + (if an g = true ∧ lv g < 0 then 1 else 0) = 0
    rw [sL_0 g, if_neg (fun y => absurd y.2 (Nat.not_lt_zero _))]
theorem cL_mo : ∀ c, cL an lv L k ≤ cL an lv L (k + c)
  | 0 => Nat.le_refl _
  | c + 1 => by
    have := cL_mo c
    show _ ≤ cL an lv L (k + c) + (if _ then 1 else 0)
    omega
theorem cL_lt (ha : an x = true) (hl : lv x = L) (hx : x < k) : cL an lv L x < cL an lv L k := by
  have h1 := cL_y (L := L) ha hl
  have h2 := cL_mo (an := an) (lv := lv) (L := L) (k := x + 1) (k - (x + 1))
  rw [show x + 1 + (k - (x + 1)) = k by omega] at h2
  omega
/-- where gate x comes among the ANDs by levels -/
def qLv (an : Nat → Bool) (lv : Nat → Nat) (g x : Nat) : Nat := sL an lv (lv x) g + cL an lv (lv x) x
theorem qLv_lt (ha : an x = true) (hx : x < g) : qLv an lv g x < sL an lv (lv x + 1) g := by
  have := cL_lt (L := lv x) ha rfl hx
  unfold qLv
  rw [sL_s]
  omega
theorem qLv_ne (ha : an x = true) (hb : an y = true) (hx : x < g) (hy : y < x) : qLv an lv g y ≠ qLv an lv g x := by
  intro e
  rcases Nat.lt_trichotomy (lv y) (lv x) with q | q | q
  · have h1 := qLv_lt (g := g) (lv := lv) hb (by omega)
    have h2 := sL_mo (an := an) (lv := lv) (g := g) (L := lv y + 1) (lv x - (lv y + 1))
    rw [show lv y + 1 + (lv x - (lv y + 1)) = lv x by omega] at h2
    have h3 : sL an lv (lv x) g ≤ qLv an lv g x := Nat.le_add_right _ _
    omega
  · have h1 := cL_lt (L := lv x) hb q hy
    unfold qLv at e
    rw [q] at e
    omega
  · have h1 := qLv_lt (g := g) (lv := lv) ha hx
    have h2 := sL_mo (an := an) (lv := lv) (g := g) (L := lv x + 1) (lv y - (lv x + 1))
    rw [show lv x + 1 + (lv y - (lv x + 1)) = lv y by omega] at h2
    have h3 : sL an lv (lv y) g ≤ qLv an lv g y := Nat.le_add_right _ _
    omega
/-- each place is some gate's -/
theorem qLv_ex : ∀ g i, i < cL an lv L g → ∃ x, x < g ∧ an x = true ∧ lv x = L ∧ cL an lv L x = i
  | 0, i, h => absurd h (Nat.not_lt_zero _)
  | g + 1, i, h => by
    by_cases z : an g = true ∧ lv g = L
    · rw [cL_y z.1 z.2] at h
      by_cases q : i < cL an lv L g
      · obtain ⟨x, h1, h2⟩ := qLv_ex g i q
        exact ⟨x, by omega, h2⟩
      · exact ⟨g, by omega, z.1, z.2, by omega⟩
    · rw [cL_n z] at h
      obtain ⟨x, h1, h2⟩ := qLv_ex g i h
      exact ⟨x, by omega, h2⟩
/-- gates on both sides -/
def GLv (an : Nat → Bool) (lv : Nat → Nat) (g : Nat) (A : zS) : Prop := A.1 24 4 = nI g ∧ g ≤ 40000 ∧ ∀ k, k < g → A.1 27 k = nI (lv k) ∧ (A.1 28 k = -1 ↔ ¬ an k = true) ∧ lv k ≤ 2000 ∧ (an k = true → 1 ≤ lv k)
/-- the class's rows of ANDs by levels -/
def FIN (an : Nat → Bool) (lv : Nat → Nat) (g : Nat) (A A' : zS) : Prop := (∀ c i, ¬ (c = 29 ∨ c = 30) → A'.1 c i = A.1 c i) ∧ (∀ c i, A'.2 c i = A.2 c i) ∧ (∀ m, 1 ≤ m → m < 2003 → A'.1 30 m = nI (sL an lv m g)) ∧ ∀ x, x < g → an x = true → A'.1 29 (qLv an lv g x) = nI x
theorem fi_103 (hG : GLv an lv g A0) : ∀ c x A, x + c = g → (∀ c i, ¬ (c = 29 ∨ c = 30) → A.1 c i = A0.1 c i) → (∀ c i, A.2 c i = A0.2 c i) → (∀ m, 1 ≤ m → m < 2003 → A.1 30 m = nI (sL an lv (m - 1) g + cL an lv (m - 1) x)) → (∀ y, y < x → an y = true → A.1 29 (qLv an lv g y) = nI y) → (∀ A', FIN an lv g A0 A' → Q none A') → zW l Gr (zc n w) 168 M_Circuit_finish (d + 1) 103 [some (.ref 56), some (.int (nI x)), none] [] A Q
  | 0, x, A, h, f1, f2, h30, h29, hQ => by
    obtain ⟨h4, hg, hk⟩ := hG
    have ex : x = g := by omega
    subst ex
    refine b_Circuit_finish_103 (fun _ => b_Circuit_finish_178 (hQ A ⟨f1, f2, fun m q1 q2 => ?_, h29⟩)) (fun q => absurd (by rw [f1 24 4 (by omega), h4]; exact nI_le (Nat.le_refl _) (by omega)) q)
    have e := sL_s (an := an) (lv := lv) (L := m - 1) x
    rw [show m - 1 + 1 = m by omega] at e
    rw [h30 m q1 q2, e]
  | c + 1, x, A, h, f1, f2, h30, h29, hQ => by
    obtain ⟨h4, hg, hk⟩ := hG
    obtain ⟨k27, k28, kl, k1⟩ := hk x (by omega)
    have a27 : A.1 27 x = nI (lv x) := (f1 27 x (by omega)).trans k27
    have a28 : A.1 28 x = A0.1 28 x := f1 28 x (by omega)
    have cx : ((nI x : Int32)).toNatClampNeg = x := nI_clamp (by omega)
    have e1 : nI x + Int32.ofInt 1 = nI (x + 1) := nI_add x 1
    refine b_Circuit_finish_103 (fun q => absurd q (by rw [f1 24 4 (by omega), h4]; exact nI_ge (a := x) (b := g) (by omega) (by omega))) (fun _ => b_Circuit_finish_111 (vp_in_nI (by omega) (by omega)) (fun q => b_Circuit_finish_172 ?_) (fun q => ?_))
    · rw [e1]
      have na : ¬ an x = true := k28.mp (by rw [← a28, ← cx]; exact q)
      exact fi_103 ⟨h4, hg, hk⟩ c (x + 1) A (by omega) f1 f2 (fun m q1 q2 => by rw [cL_n (fun y => na y.1)]; exact h30 m q1 q2) (fun y q1 q2 => h29 y (by
        by_cases z : y = x
        · exact absurd (by rw [← z]; exact q2) na
        · omega) q2) hQ
    · have na : an x = true := by
        by_cases z : an x = true
        · exact z
        · exact absurd (by rw [cx, a28]; exact k28.mpr z) q
      have hp := qLv_lt (g := g) (lv := lv) na (by omega)
      have hs := sL_le (an := an) (lv := lv) (L := lv x + 1) g
      have a30 : A.1 30 (lv x + 1) = nI (qLv an lv g x) := by
        rw [h30 (lv x + 1) (by omega) (by omega), show lv x + 1 - 1 = lv x by omega]
        rfl
      rw [cx, a27, nI_1]
      have cl : ((nI (lv x + 1) : Int32)).toNatClampNeg = lv x + 1 := nI_clamp (by omega)
      refine b_Circuit_finish_130 (fun q => absurd q (nI_ge (a := lv x + 1) (b := 2003) (by omega) (by omega))) (fun _ => b_Circuit_finish_139 (vp_in_nI (by omega) (by omega)) (fun q => absurd q (by rw [cl, a30]; exact nI_ge (a := qLv an lv g x) (b := 40000) (by omega) (by omega))) (fun _ => b_Circuit_finish_150 (vp_in_nI (by omega) (by omega)) (by rw [cl, a30]; exact vp_in_nI (by omega) (by omega)) (b_Circuit_finish_172 ?_)))
      rw [cl, a30, nI_clamp (by omega), e1, nI_1]
      refine fi_103 ⟨h4, hg, hk⟩ c (x + 1) _ (by omega) (fun c i q => ?_) f2 (fun m q1 q2 => ?_) (fun y q1 q2 => ?_) hQ
      · rw [zi_c (by omega), zi_c (by omega)]
        exact f1 c i q
      · by_cases z : m = lv x + 1
        · rw [z, zi_v, show lv x + 1 - 1 = lv x by omega, cL_y na rfl]
          unfold qLv
          rw [Nat.add_assoc]
        · rw [zi_k z, zi_c (by decide), cL_n (fun y => z (by omega))]
          exact h30 m q1 q2
      · rw [zi_c (by decide)]
        by_cases z : y = x
        · rw [z]
          exact zi_v
        · rw [zi_k (qLv_ne na q2 (by omega) (by omega))]
          exact h29 y (by omega) q2
theorem fi_69 (hG : GLv an lv g A0) : ∀ c x A, x + c = 2003 → 1 ≤ x → (∀ c i, ¬ (c = 29 ∨ c = 30) → A.1 c i = A0.1 c i) → (∀ c i, A.2 c i = A0.2 c i) → (∀ m, m < x → A.1 30 m = nI (sL an lv (m - 1) g)) → (∀ m, x ≤ m → m < 2003 → A.1 30 m = nI (if 2 ≤ m then cL an lv (m - 2) g else 0)) → (∀ A', FIN an lv g A0 A' → Q none A') → zW l Gr (zc n w) 168 M_Circuit_finish (d + 1) 69 [some (.ref 56), some (.int (nI x)), none] [] A Q
  | 0, x, A, h, _, f1, f2, h1, h2, hQ => by
    refine b_Circuit_finish_69 (fun _ => b_Circuit_finish_101 (fi_103 hG g 0 A (by omega) f1 f2 (fun m q1 q2 => h1 m (by omega)) (fun y q => absurd q (Nat.not_lt_zero y)) hQ)) (fun q => absurd (by rw [show x = 2003 by omega]; exact Int32.le_refl _) q)
  | c + 1, x, A, h, hx, f1, f2, h1, h2, hQ => by
    refine b_Circuit_finish_69 (fun q => absurd q (nI_ge (a := x) (b := 2003) (by omega) (by omega))) (fun _ => b_Circuit_finish_78 (vp_in_nI (by omega) (by omega)) (by rw [show nI x - 1 = nI (x - 1) by rw [show x = x - 1 + 1 by omega, nI_pred]; rfl]; exact vp_in_nI (by omega) (by omega)) ?_)
    have e : nI x - 1 = nI (x - 1) := by
      obtain ⟨y, rfl⟩ : ∃ y, x = y + 1 := ⟨x - 1, by omega⟩
      rw [nI_pred]
      rfl
    rw [e, nI_clamp (by omega), nI_clamp (by omega), h2 x (Nat.le_refl _) (by omega), h1 (x - 1) (by omega), nI_add, show nI x + Int32.ofInt 1 = nI (x + 1) from nI_add x 1]
    refine fi_69 hG c (x + 1) _ (by omega) (by omega) (fun c i q => by rw [zi_c (by omega)]; exact f1 c i q) f2 (fun m q => ?_) (fun m q1 q2 => by rw [zi_k (by omega)]; exact h2 m (by omega) q2) hQ
    by_cases z : m = x
    · rw [z, zi_v]
      congr 1
      by_cases q : 2 ≤ x
      · have es := sL_s (an := an) (lv := lv) (L := x - 2) g
        rw [show x - 2 + 1 = x - 1 by omega] at es
        rw [if_pos q, show x - 1 - 1 = x - 2 by omega, es]
        omega
      · rw [if_neg q, show x - 1 - 1 = 0 by omega, show x - 1 = 0 by omega, sL_0]
    · rw [zi_k z]
      exact h1 m (by omega)
theorem fi_10 (hG : GLv an lv g A0) : ∀ c x A, x + c = g → (∀ c i, ¬ (c = 29 ∨ c = 30) → A.1 c i = A0.1 c i) → (∀ c i, A.2 c i = A0.2 c i) → (∀ m, m < 2003 → A.1 30 m = nI (if 2 ≤ m then cL an lv (m - 2) x else 0)) → (∀ A', FIN an lv g A0 A' → Q none A') → zW l Gr (zc n w) 168 M_Circuit_finish (d + 1) 10 [some (.ref 56), some (.int (nI x)), none] [] A Q
  | 0, x, A, h, f1, f2, h30, hQ => by
    have ex : x = g := by omega
    subst ex
    refine b_Circuit_finish_10 (fun _ => b_Circuit_finish_67 (fi_69 (A0 := A0) hG 2002 1 A (by omega) (by omega) f1 f2 (fun m q => ?_) (fun m q1 q2 => h30 m q2) hQ)) (fun q => absurd (by rw [f1 24 4 (by omega), hG.1]; exact nI_le (Nat.le_refl _) (by have := hG.2.1; omega)) q)
    rw [h30 m (by omega), if_neg (by omega), show m - 1 = 0 by omega, sL_0]
  | c + 1, x, A, h, f1, f2, h30, hQ => by
    obtain ⟨h4, hg, hk⟩ := hG
    obtain ⟨k27, k28, kl, k1⟩ := hk x (by omega)
    have a27 : A.1 27 x = nI (lv x) := (f1 27 x (by omega)).trans k27
    have a28 : A.1 28 x = A0.1 28 x := f1 28 x (by omega)
    have cx : ((nI x : Int32)).toNatClampNeg = x := nI_clamp (by omega)
    have e1 : nI x + Int32.ofInt 1 = nI (x + 1) := nI_add x 1
    refine b_Circuit_finish_10 (fun q => absurd q (by rw [f1 24 4 (by omega), h4]; exact nI_ge (a := x) (b := g) (by omega) (by omega))) (fun _ => b_Circuit_finish_18 (vp_in_nI (by omega) (by omega)) (fun q => b_Circuit_finish_61 ?_) (fun q => ?_))
    · rw [e1]
      have na : ¬ an x = true := k28.mp (by rw [← a28, ← cx]; exact q)
      exact fi_10 ⟨h4, hg, hk⟩ c (x + 1) A (by omega) f1 f2 (fun m q1 => by rw [cL_n (fun y => na y.1)]; exact h30 m q1) hQ
    · have na : an x = true := by
        by_cases z : an x = true
        · exact z
        · exact absurd (by rw [cx, a28]; exact k28.mpr z) q
      have e2 : A.1 27 ((nI x : Int32)).toNatClampNeg + 2 = nI (lv x + 2) := by rw [cx, a27]; exact nI_add (lv x) 2
      have cl : ((nI (lv x + 2) : Int32)).toNatClampNeg = lv x + 2 := nI_clamp (by omega)
      refine b_Circuit_finish_28 (vp_in_nI (by omega) (by omega)) (fun q => absurd q (by rw [e2]; exact nI_ge (a := lv x + 2) (b := 2003) (by omega) (by omega))) (fun _ => b_Circuit_finish_44 (vp_in_nI (by omega) (by omega)) (by rw [e2]; exact vp_in_nI (by omega) (by omega)) (b_Circuit_finish_61 ?_))
      rw [e2, cl, e1, h30 (lv x + 2) (by omega), if_pos (by omega), show lv x + 2 - 2 = lv x by omega, nI_1]
      refine fi_10 ⟨h4, hg, hk⟩ c (x + 1) _ (by omega) (fun c i q => by rw [zi_c (by omega)]; exact f1 c i q) f2 (fun m q1 => ?_) hQ
      by_cases z : m = lv x + 2
      · rw [z, zi_v, if_pos (by omega), show lv x + 2 - 2 = lv x by omega, cL_y na rfl]
      · rw [zi_k z, h30 m q1]
        by_cases q2 : 2 ≤ m
        · rw [if_pos q2, if_pos q2, cL_n (fun y => z (by omega))]
        · rw [if_neg q2, if_neg q2]
theorem w_finish (hg : ip_gk (lg_tbl, vwCl, Gr)) (hG : GLv an lv g A) : zMv l Gr (zc n w) 168 M_Circuit_finish (d + 1) [.ref 56] A (fun A' => FIN an lv g A A') := by
  refine e_Circuit_finish (b_Circuit_finish_0 hg (m_fill_62 0) (fun A1 e1 => b_Circuit_finish_8 ?_))
  rw [e1]
  refine fi_10 hG g 0 _ (by omega) (fun c i q => ?_) (fun _ _ => rfl) (fun m q => ?_) (fun A' h => ⟨rfl, h⟩)
  · unfold zfill
    rw [zI_get, if_neg (by omega)]
  · unfold zfill
    rw [zI_get, if_pos rfl, if_pos q]
    by_cases z : 2 ≤ m
    · rw [if_pos z]; rfl
    · rw [if_neg z]; rfl
end LVS
