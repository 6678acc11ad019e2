/-! var on both sides: the instructions -/
section VAI
variable {l : Launch} {Gr : zG} {n w : Nat} {d : Nat} {S A A0 T B B0 : zS} {x1 : Int32} {X V : Nat → Int32} {Q : Option Value → zS → Prop} {a b m q i j e r v z k t h : Nat}
/-- words a .. a + q - 1 get V, bits below m -/
def VWc (A A' : zS) (w a q m : Nat) (V : Nat → Int32) : Prop := (∀ c k, ¬ (c = 45 ∧ k = 8) → ¬ (c = 58 ∧ a * w ≤ k ∧ k < (a + q) * w) → A'.1 c k = A.1 c k) ∧ (∀ c k, A'.2 c k = A.2 c k) ∧ (∀ y x, y < q → x < m → A'.1 58 ((a + y) * w + x) = V x) ∧ ∀ k, k < 256 * w → CNl (A.1 58 k) → (∀ x, x < m → CNl (V x)) → CNl (A'.1 58 k)
theorem ka_2 (hg : ip_gk (lg_tbl, vwCl, Gr)) (hw : w ≤ 32) (hw1 : 1 ≤ w) (he : e < 800) (hr : r ≤ 1) (hm : m = if r = 1 then 1 else w) (hz : z ≤ 64) (h12 : A0.1 12 e = nI r) (h13 : A0.1 13 e = nI z) (h14 : A0.1 14 e = nI a) (hay : a + max 1 z ≤ 256) (h8 : A0.1 45 8 = nI b) (hb : b + w ≤ 9682 * w) : ∀ (c y : Nat) (A : zS), y + c = max 1 z → VWc A0 A w a y m (fun x => A0.1 57 (b + x)) → A.1 45 8 = nI b → (∀ A', VWc A0 A' w a (max 1 z) m (fun x => A0.1 57 (b + x)) → A'.1 45 8 = nI b → Q none A') → zW l Gr (zc n w) 168 M_Builder_keepAll (d + 3) 2 [some (.ref 77), some (.int (nI e)), some (.int (nI y))] [] A Q := by
  have hmw : m ≤ w := by rw [hm]; split <;> omega
  intro c
  induction c with
  | zero =>
    intro y A h hV h8' hQ
    have f13 : A.1 13 e = nI z := (hV.1 13 e (by omega) (by omega)).trans h13
    refine b_Builder_keepAll_2 hg (w_words (d := d + 1) he f13 hz) (fun v A1 k1 => ?_)
    rw [k1.1, k1.2]
    exact b_Builder_keepAll_11 (fun _ => b_Builder_keepAll_30 (hQ A (by rw [show max 1 z = y by omega]; exact hV) h8')) (fun q => absurd (nI_le (by omega) (by omega)) q)
  | succ c ih =>
    intro y A h hV h8' hQ
    have f13 : A.1 13 e = nI z := (hV.1 13 e (by omega) (by omega)).trans h13
    refine b_Builder_keepAll_2 hg (w_words (d := d + 1) he f13 hz) (fun v A1 k1 => ?_)
    rw [k1.1, k1.2]
    refine b_Builder_keepAll_11 (fun q => absurd q (nI_ge (by omega) (by omega))) (fun _ => b_Builder_keepAll_14 hg (R := fun A' => A' = zI A 58 (va_cpy (A.1 57) (A.1 58) b ((a + y) * w) m)) (by rw [h8']; exact w_keep (d := d + 1) hg hw hw1 he hr hm ((hV.1 12 e (by omega) (by omega)).trans h12) ((hV.1 14 e (by omega) (by omega)).trans h14) (by omega) hb) (fun A2 k2 => b_Builder_keepAll_24 ?_))
    rw [show nI y + Int32.ofInt 1 = nI (y + 1) from nI_add y 1, k2]
    have m1 : (a + (y + 1)) * w = (a + y) * w + w := by rw [← Nat.add_assoc, Nat.succ_mul]
    have f57 : ∀ k, A.1 57 k = A0.1 57 k := fun k => hV.1 57 k (by omega) (by omega)
    have m2 : a * w ≤ (a + y) * w := Nat.mul_le_mul_right _ (by omega)
    have in58 : ∀ x, x < m → (zI A 58 (va_cpy (A.1 57) (A.1 58) b ((a + y) * w) m)).1 58 ((a + y) * w + x) = A0.1 57 (b + x) := fun x hx => by
      rw [zI_get, if_pos rfl, pk_cpy_in (by omega) (by omega), show (a + y) * w + x - (a + y) * w = x by omega, f57]
    have out58 : ∀ k, ¬ ((a + y) * w ≤ k ∧ k < (a + y) * w + m) → (zI A 58 (va_cpy (A.1 57) (A.1 58) b ((a + y) * w) m)).1 58 k = A.1 58 k := fun k hk => by
      rw [zI_get, if_pos rfl, pk_cpy_out (by omega)]
    refine ih (y + 1) _ (by omega) ⟨fun c k q1 q2 => ?_, fun c k => hV.2.1 c k, fun y' x hy hx => ?_, fun k hk q1 q2 => ?_⟩ (by rw [zI_c (by decide)]; exact h8') hQ
    · by_cases z58 : c = 58
      · subst z58
        rw [out58 k (by omega)]
        exact hV.1 58 k (by omega) (by omega)
      · rw [zI_c z58]
        exact hV.1 c k q1 (by omega)
    · by_cases ey : y' = y
      · rw [ey]
        exact in58 x hx
      · have m3 : (a + y') * w + w ≤ (a + y) * w := by rw [← Nat.succ_mul]; exact Nat.mul_le_mul_right _ (by omega)
        rw [out58 _ (by omega)]
        exact hV.2.2.1 y' x (by omega) hx
    · by_cases ek : (a + y) * w ≤ k ∧ k < (a + y) * w + m
      · have := in58 (k - (a + y) * w) (by omega)
        rw [show (a + y) * w + (k - (a + y) * w) = k by omega] at this
        rw [this]
        exact q2 _ (by omega)
      · rw [out58 k ek]
        exact hV.2.2.2 k hk q1 q2
theorem w_st7 (hg : ip_gk (lg_tbl, vwCl, Gr)) (hw : w ≤ 32) (hw1 : 1 ≤ w) (hj : j < 4000) (he : e < 800) (hr : r ≤ 1) (hm : m = if r = 1 then 1 else w) (hz : z ≤ 64) (h5 : A.1 5 j = nI e) (h12 : A.1 12 e = nI r) (h13 : A.1 13 e = nI z) (h14 : A.1 14 e = nI a) (hay : a + max 1 z ≤ 256) (h8 : A.1 45 8 = nI (b + w)) (hb : b + w ≤ 9682 * w) : zMv l Gr (zc n w) 168 M_Builder_buildStatement (d + 7) [.ref 77, .int (nI j), .int 7] A (fun A' => VWc A A' w a (max 1 z) m (fun x => A.1 57 (b + x)) ∧ A'.1 45 8 = nI b) := by
  have cj : ((nI j : Int32)).toNatClampNeg = j := nI_clamp (by omega)
  have e8 : A.1 45 8 - nI w = nI b := by rw [h8, nI_subb]
  refine e_Builder_buildStatement (b_Builder_buildStatement_0 (vp_in_nI hj (by omega)) (fun y => absurd y (by decide)) (fun y => absurd y (by decide)) (fun y => absurd y (by decide)) (fun _ => ?_) (fun y => absurd y (by decide)) (fun y => absurd y (by decide)) (fun y => absurd y (by decide)) (fun y => absurd y (by decide)) (fun _ _ _ y => absurd rfl y))
  rw [cj, h5]
  refine b_Builder_buildStatement_125 hg (R := fun A' => VWc A A' w a (max 1 z) m (fun x => A.1 57 (b + x)) ∧ A'.1 45 8 = nI b) ?_ (fun A' k => b_Builder_buildStatement_143 (b_Builder_buildStatement_267 ⟨rfl, k⟩))
  rw [e8]
  refine e_Builder_keepAll (b_Builder_keepAll_0 (ka_2 (d := d + 3) (A0 := zi A 45 8 (nI b)) hg hw hw1 he hr hm hz (by rw [zi_c (by decide)]; exact h12) (by rw [zi_c (by decide)]; exact h13) (by rw [zi_c (by decide)]; exact h14) hay (by rw [zi_get, if_pos ⟨rfl, rfl⟩]) hb (max 1 z) 0 _ (by omega) ⟨fun _ _ _ _ => rfl, fun _ _ => rfl, fun y x hy => absurd hy (by omega), fun _ _ q _ => q⟩ (by rw [zi_get, if_pos ⟨rfl, rfl⟩]) (fun A' hV h8' => ⟨rfl, ⟨fun c k q1 q2 => ?_, fun c k => hV.2.1 c k, fun y x hy hx => ?_, fun k hk q1 q2 => ?_⟩, h8'⟩)))
  · rw [hV.1 c k q1 q2, zi_get, if_neg q1]
  · rw [hV.2.2.1 y x hy hx]
    show (zi A 45 8 (nI b)).1 57 (b + x) = A.1 57 (b + x)
    rw [zi_c (by decide)]
  · exact hV.2.2.2 k hk (by rw [zi_c (by decide)]; exact q1) (fun x hx => by
      show CNl ((zi A 45 8 (nI b)).1 57 (b + x))
      rw [zi_c (by decide)]
      exact q2 x hx)
theorem kr90 (hw : w ≤ 32) (hb : a + b ≤ 256 * w) : ∀ (k j : Nat) (A : zS), j + k = b → (∀ A', (∀ c i, ¬ (c = 58 ∧ a + j ≤ i ∧ i < a + b) → A'.1 c i = A.1 c i) → (∀ c i, A'.2 c i = A.2 c i) → (∀ i, j ≤ i → i < b → A'.1 58 (a + i) = -2) → Q none A') → zW l Gr (zc n w) 168 M_Builder_clearRow d 2 [some (.ref 90), some (.int (nI a)), some (.int (nI b)), some (.int (nI (a + j)))] [] A Q
  | 0, j, A, h, hQ => b_Builder_clearRow_r90_2 (fun _ => b_Builder_clearRow_r90_20 (hQ A (fun _ _ _ => rfl) (fun _ _ => rfl) (fun i h1 h2 => absurd h2 (by omega)))) (fun z => absurd (by have hmul : 256 * w ≤ 256 * 32 := Nat.mul_le_mul_left _ hw; rw [nI_add]; exact nI_le (by omega) (by omega)) z)
  | k + 1, j, A, h, hQ => by
    have hmul : 256 * w ≤ 256 * 32 := Nat.mul_le_mul_left _ hw
    refine b_Builder_clearRow_r90_2 (fun z => absurd z (by rw [nI_add]; exact nI_ge (by omega) (by omega))) (fun _ => b_Builder_clearRow_r90_9 (vp_in_nI (by omega) (by omega)) ?_)
    rw [nI_clamp (by omega), show nI (a + j) + Int32.ofInt 1 = nI (a + (j + 1)) from nI_add (a + j) 1]
    refine kr90 hw hb k (j + 1) _ (by omega) (fun A' e1 e2 e3 => hQ A' (fun c i q => ?_) (fun c i => e2 c i) (fun i h1 h2 => ?_))
    · rw [e1 c i (by omega), zi_get, if_neg (by omega)]
    · by_cases z : i = j
      · rw [z, e1 58 (a + j) (by omega), zi_get, if_pos ⟨rfl, rfl⟩]
      · exact e3 i (by omega) h2
theorem w_st8 (hg : ip_gk (lg_tbl, vwCl, Gr)) (hw : w ≤ 32) (hw1 : 1 ≤ w) (hj : j < 4000) (he : e < 800) (hm : m ≤ w) (hz : z ≤ 64) (h5 : A.1 5 j = nI e) (h13 : A.1 13 e = nI z) (h14 : A.1 14 e = nI a) (hay : a + max 1 z ≤ 256) : zMv l Gr (zc n w) 168 M_Builder_buildStatement (d + 7) [.ref 77, .int (nI j), .int 8] A (fun A' => VWc A A' w a (max 1 z) m (fun _ => -2) ∧ A'.1 45 8 = A.1 45 8) := by
  have cj : ((nI j : Int32)).toNatClampNeg = j := nI_clamp (by omega)
  have ce : ((nI e : Int32)).toNatClampNeg = e := nI_clamp (by omega)
  have m1 : a * w + max 1 z * w = (a + max 1 z) * w := (Nat.add_mul _ _ _).symm
  have m2 : (a + max 1 z) * w ≤ 256 * w := Nat.mul_le_mul_right _ hay
  refine e_Builder_buildStatement (b_Builder_buildStatement_0 (vp_in_nI hj (by omega)) (fun y => absurd y (by decide)) (fun y => absurd y (by decide)) (fun y => absurd y (by decide)) (fun y => absurd y (by decide)) (fun _ => ?_) (fun y => absurd y (by decide)) (fun y => absurd y (by decide)) (fun y => absurd y (by decide)) (fun _ _ _ _ y => absurd rfl y))
  rw [cj, h5]
  refine b_Builder_buildStatement_146 hg (vp_in_nI he (by omega)) (w_words (d := d + 5) he h13 hz) (fun v A1 k1 => ?_)
  rw [k1.1, k1.2, ce, h14, nI_mul]
  refine b_Builder_buildStatement_172 hg (R := fun A' => VWc A A' w a (max 1 z) m (fun _ => -2) ∧ A'.1 45 8 = A.1 45 8) (by
    rw [nI_mul]
    refine e_Builder_clearRow_r90 (b_Builder_clearRow_r90_0 ?_)
    refine kr90 (a := a * w) (b := max 1 z * w) hw (by omega) (max 1 z * w) 0 A (by omega) (fun A' e1 e2 e3 => ⟨rfl, ⟨fun c k q1 q2 => e1 c k (by omega), e2, fun y x hy hx => ?_, fun k hk q1 q2 => ?_⟩, e1 45 8 (by omega)⟩)
    · have m3 : y * w + w ≤ max 1 z * w := by rw [← Nat.succ_mul]; exact Nat.mul_le_mul_right _ hy
      have := e3 (y * w + x) (by omega) (by omega)
      rw [Nat.add_mul, Nat.add_assoc]
      exact this
    · by_cases ek : a * w ≤ k ∧ k < a * w + max 1 z * w
      · have := e3 (k - a * w) (by omega) (by omega)
        rw [show a * w + (k - a * w) = k by omega] at this
        rw [this]
        exact fun _ => Or.inr rfl
      · rw [e1 58 k (by omega)]
        exact q1) (fun A' k => b_Builder_buildStatement_180 (b_Builder_buildStatement_267 ⟨rfl, k⟩))
/-- the reference's -/
def VWm (B B' : zS) (a q m nv : Nat) (V : Nat → Int32) : Prop := (∀ c k, ¬ (c = 73 ∧ (k = 85 ∨ k = 97)) → ¬ (c = 125 ∧ k < 40) → ¬ ((133 ≤ c ∧ c ≤ 135) ∧ k = nv) → ¬ (c = 132 ∧ 32 * a ≤ k ∧ k < 32 * (a + q)) → B'.1 c k = B.1 c k) ∧ (∀ c k, B'.2 c k = B.2 c k) ∧ B'.1 73 97 = nI (nv + 1) ∧ B'.1 133 nv = nI a ∧ B'.1 134 nv = nI q ∧ B'.1 135 nv = nI m ∧ ∀ y x, y < q → x < m → B'.1 132 (32 * (a + y) + x) = V x
theorem mv_69 (hm : m ≤ 32) (hq : q < 4200) : ∀ (c x : Nat) (B : zS), x + c = m → (∀ c k, ¬ (c = 125 ∧ k < 40) → B.1 c k = T.1 c k) → (∀ c k, B.2 c k = T.2 c k) → T.1 73 85 = nI q → (∀ i, i < x → B.1 125 i = T.1 122 (32 * q + i)) → (∀ B', (∀ c k, ¬ (c = 125 ∧ k < 40) → B'.1 c k = T.1 c k) → (∀ c k, B'.2 c k = T.2 c k) → (∀ i, i < m → B'.1 125 i = T.1 122 (32 * q + i)) → zW l Gr (zc n w) 168 M_Mo_variable (d + 5) 103 [some (.ref 105), some (.int (nI j)), some (.int (nI m)), none, some (.int (nI z)), none, none] [] B' Q) → zW l Gr (zc n w) 168 M_Mo_variable (d + 5) 69 [some (.ref 105), some (.int (nI j)), some (.int (nI m)), none, some (.int (nI z)), some (.int (nI x)), none] [] B Q
  | 0, x, B, h, h0, h0', h85, h1, hQ => b_Mo_variable_69 (fun _ => hQ B h0 h0' (fun i hi => h1 i (by omega))) (fun q => absurd (nI_le (a := m) (b := x) (by omega) (by omega)) q)
  | c + 1, x, B, h, h0, h0', h85, h1, hQ => by
    have e1 : 32 * B.1 73 85 + nI x = nI (32 * q + x) := by rw [h0 73 85 (by omega), h85, nI_mul32, nI_add]
    refine b_Mo_variable_69 (fun q => absurd q (nI_ge (a := x) (b := m) (by omega) (by omega))) (fun _ => b_Mo_variable_75 (by rw [e1]; exact vp_in_nI (by omega) (by omega)) (vp_in_nI (by omega) (by omega)) ?_)
    rw [e1, nI_clamp (by omega), nI_clamp (by omega), h0 122 _ (by omega), show nI x + Int32.ofInt 1 = nI (x + 1) from nI_add x 1]
    refine mv_69 hm hq c (x + 1) _ (by omega) (fun c k q => by rw [zi_get, if_neg (by omega)]; exact h0 c k q) (fun c k => h0' c k) h85 (fun i hi => ?_) hQ
    rw [zi_get]
    by_cases z : i = x
    · rw [if_pos ⟨rfl, z⟩, z]
    · rw [if_neg (by omega)]
      exact h1 i (by omega)
theorem mv_168 (hm : m ≤ 32) (hj : j < 12000) (hy : a + h < 256) (h89 : T.1 89 j = nI a) (h125 : ∀ i, i < m → T.1 125 i = V i) : ∀ (c x : Nat) (B : zS), x + c = m → (∀ c k, ¬ (c = 132 ∧ 32 * (a + h) ≤ k ∧ k < 32 * (a + h) + 32) → B.1 c k = T.1 c k) → (∀ c k, B.2 c k = T.2 c k) → (∀ i, i < x → B.1 132 (32 * (a + h) + i) = V i) → (∀ B', (∀ c k, ¬ (c = 132 ∧ 32 * (a + h) ≤ k ∧ k < 32 * (a + h) + 32) → B'.1 c k = T.1 c k) → (∀ c k, B'.2 c k = T.2 c k) → (∀ i, i < m → B'.1 132 (32 * (a + h) + i) = V i) → zW l Gr (zc n w) 168 M_Mo_variable (d + 5) 207 [some (.ref 105), some (.int (nI j)), some (.int (nI m)), none, none, some (.int (nI h)), none] [] B' Q) → zW l Gr (zc n w) 168 M_Mo_variable (d + 5) 168 [some (.ref 105), some (.int (nI j)), some (.int (nI m)), none, none, some (.int (nI h)), some (.int (nI x))] [] B Q
  | 0, x, B, hx, h0, h0', h1, hQ => b_Mo_variable_168 (fun _ => hQ B h0 h0' (fun i hi => h1 i (by omega))) (fun q => absurd (nI_le (a := m) (b := x) (by omega) (by omega)) q)
  | c + 1, x, B, hx, h0, h0', h1, hQ => by
    have cj : ((nI j : Int32)).toNatClampNeg = j := nI_clamp (by omega)
    have e1 : 32 * (B.1 89 ((nI j : Int32)).toNatClampNeg + nI h) + nI x = nI (32 * (a + h) + x) := by rw [cj, h0 89 j (by omega), h89, nI_add, nI_mul32, nI_add]
    refine b_Mo_variable_168 (fun q => absurd q (nI_ge (a := x) (b := m) (by omega) (by omega))) (fun _ => b_Mo_variable_174 (vp_in_nI hj (by omega)) (vp_in_nI (by omega) (by omega)) (by rw [e1]; exact vp_in_nI (by omega) (by omega)) ?_)
    rw [e1, nI_clamp (by omega), nI_clamp (by omega), h0 125 _ (by omega), h125 x (by omega), show nI x + Int32.ofInt 1 = nI (x + 1) from nI_add x 1]
    refine mv_168 hm hj hy h89 h125 c (x + 1) _ (by omega) (fun c k q => by rw [zi_get, if_neg (by omega)]; exact h0 c k q) (fun c k => h0' c k) (fun i hi => ?_) hQ
    rw [zi_get]
    by_cases z : i = x
    · rw [if_pos ⟨rfl, by omega⟩, z]
    · rw [if_neg (by omega)]
      exact h1 i (by omega)
theorem mv_151 (hm : m ≤ 32) (hj : j < 12000) (ht : t < 300) (hay : a + q ≤ 256) (h97 : T.1 73 97 = nI t) (h134 : T.1 134 t = nI q) (h89 : T.1 89 j = nI a) (h125 : ∀ i, i < m → T.1 125 i = V i) : ∀ (c h : Nat) (B : zS), h + c = q → (∀ c k, ¬ (c = 132 ∧ 32 * a ≤ k ∧ k < 32 * (a + q)) → B.1 c k = T.1 c k) → (∀ c k, B.2 c k = T.2 c k) → (∀ y x, y < h → x < m → B.1 132 (32 * (a + y) + x) = V x) → (∀ B', (∀ c k, ¬ (c = 132 ∧ 32 * a ≤ k ∧ k < 32 * (a + q)) → B'.1 c k = T.1 c k) → (∀ c k, B'.2 c k = T.2 c k) → (∀ y x, y < q → x < m → B'.1 132 (32 * (a + y) + x) = V x) → Q none (zi B' 73 97 (nI (t + 1)))) → zW l Gr (zc n w) 168 M_Mo_variable (d + 5) 151 [some (.ref 105), some (.int (nI j)), some (.int (nI m)), none, none, some (.int (nI h)), none] [] B Q
  | 0, h, B, hx, h0, h0', h1, hQ => by
    have f97 : B.1 73 97 = nI t := (h0 73 97 (by omega)).trans h97
    refine b_Mo_variable_151 (by rw [f97]; exact vp_in_nI ht (by omega)) (fun _ => b_Mo_variable_213 ?_) (fun z => absurd (by rw [f97, nI_clamp (by omega), h0 134 t (by omega), h134]; exact nI_le (by omega) (by omega)) z)
    rw [f97, nI_1]
    exact hQ B h0 h0' (fun y x hy hx' => h1 y x (by omega) hx')
  | c + 1, h, B, hx, h0, h0', h1, hQ => by
    have f97 : B.1 73 97 = nI t := (h0 73 97 (by omega)).trans h97
    refine b_Mo_variable_151 (by rw [f97]; exact vp_in_nI ht (by omega)) (fun z => absurd z (by rw [f97, nI_clamp (by omega), h0 134 t (by omega), h134]; exact nI_ge (by omega) (by omega))) (fun _ => b_Mo_variable_165 ?_)
    refine mv_168 (T := B) (V := V) hm hj (by omega) ((h0 89 j (by omega)).trans h89) (fun i hi => (h0 125 i (by omega)).trans (h125 i hi)) m 0 B (by omega) (fun _ _ _ => rfl) (fun _ _ => rfl) (fun i hi => absurd hi (by omega)) (fun B2 e1 e2 e3 => b_Mo_variable_207 ?_)
    rw [show nI h + Int32.ofInt 1 = nI (h + 1) from nI_add h 1]
    refine mv_151 hm hj ht hay h97 h134 h89 h125 c (h + 1) B2 (by omega) (fun c k q => (e1 c k (by omega)).trans (h0 c k q)) (fun c k => (e2 c k).trans (h0' c k)) (fun y x hy hx' => ?_) hQ
    by_cases z : y = h
    · rw [z]
      exact e3 x hx'
    · rw [e1 132 _ (by omega)]
      exact h1 y x (by omega) hx'
theorem wm_var (hg : ip_gk (lg_tbl, vwCl, Gr)) (hw : w ≤ 32) (hw1 : 1 ≤ w) (hj : j < 12000) (hr : r ≤ 1) (hm : m = if r = 1 then 1 else w) (hz : z ≤ 64) (ht : t < 300) (hay : a + max 1 z ≤ 256) (h80 : B.1 80 j = nI r) (h89 : B.1 89 j = nI a) (h97 : B.1 73 97 = nI t) (hv : (B.2 82 j = lN (65536 + 256 * z) ∧ B.1 73 85 = nI (h + 1) ∧ h < 4200 ∧ V = fun x => B.1 122 (32 * h + x)) ∨ (B.2 82 j = lN (256 * z) ∧ B.1 73 85 = nI h ∧ V = fun _ => -2)) : zMv l Gr (zc n w) 168 M_Mo_variable (d + 5) [.ref 105, .int (nI j)] B (fun B' => VWm B B' a (max 1 z) m t V ∧ B'.1 73 85 = nI h) := by
  have hm2 : m ≤ 32 := by rw [hm]; split <;> omega
  have cj : ((nI j : Int32)).toNatClampNeg = j := nI_clamp (by omega)
  have wzz := wz hz
  refine e_Mo_variable (b_Mo_variable_0 hg (vp_in_nI hj (by omega)) wm_width (fun v B1 k1 => ?_))
  obtain ⟨ev, e1⟩ := k1
  subst e1
  have ev : v = nI m := by
    rw [ev, cj, h80, hm]
    by_cases z : r = 1
    · rw [if_pos z, if_neg (by rw [z]; decide)]
      rfl
    · rw [if_neg z, if_pos (by rw [show r = 0 by omega]; rfl)]
  rw [ev]
  -- behind the value
  have tail : ∀ B3 : zS, (∀ c k, ¬ (c = 73 ∧ k = 85) → ¬ (c = 125 ∧ k < 40) → B3.1 c k = B1.1 c k) → (∀ c k, B3.2 c k = B1.2 c k) → B3.1 73 85 = nI h → (∀ i, i < m → B3.1 125 i = V i) → zW l Gr (zc n w) 168 M_Mo_variable (d + 5) 103 [some (.ref 105), some (.int (nI j)), some (.int (nI m)), none, some (.int (nI z)), none, none] [] B3 (fun v B' => v = none ∧ VWm B1 B' a (max 1 z) m t V ∧ B'.1 73 85 = nI h) := fun B3 q1 q2 q3 q4 => by
    have f97 : B3.1 73 97 = nI t := (q1 73 97 (by omega) (by omega)).trans h97
    have ct : ((nI t : Int32)).toNatClampNeg = t := nI_clamp (by omega)
    have f89 : B3.1 89 j = nI a := (q1 89 j (by omega) (by omega)).trans h89
    have go : zW l Gr (zc n w) 168 M_Mo_variable (d + 5) 137 [some (.ref 105), some (.int (nI j)), some (.int (nI m)), none, none, none, none] [.int (nI (max 1 z)), .int (nI t), .ref 166] (zi B3 133 t (nI a)) (fun v B' => v = none ∧ VWm B1 B' a (max 1 z) m t V ∧ B'.1 73 85 = nI h) := by
      refine b_Mo_variable_137 (vp_in_nI ht (by omega)) (by rw [zi_c (by decide), f97]; exact vp_in_nI ht (by omega)) ?_
      rw [ct, zi_c (by decide), f97, ct]
      refine mv_151 (T := zi (zi (zi B3 133 t (nI a)) 134 t (nI (max 1 z))) 135 t (nI m)) (V := V) hm2 hj ht hay (by rw [zi_c (by decide), zi_c (by decide), zi_c (by decide)]; exact f97) (by rw [zi_c (by decide), zi_get, if_pos ⟨rfl, rfl⟩]) (by rw [zi_c (by decide), zi_c (by decide), zi_c (by decide)]; exact f89) (fun i hi => by rw [zi_c (by decide), zi_c (by decide), zi_c (by decide)]; exact q4 i hi) (max 1 z) 0 _ (by omega) (fun _ _ _ => rfl) (fun _ _ => rfl) (fun y x hy => absurd hy (by omega)) (fun B5 e1 e2 e3 => ⟨rfl, ⟨fun c k z1 z2 z3 z4 => ?_, fun c k => by show B5.2 c k = _; rw [e2 c k]; exact q2 c k, zi_v, ?_, ?_, ?_, fun y x hy hx => ?_⟩, ?_⟩)
      · rw [zi_get, if_neg (by omega), e1 c k (by omega), zi_get, if_neg (by omega), zi_get, if_neg (by omega), zi_get, if_neg (by omega)]
        exact q1 c k (by omega) z2
      · rw [zi_c (by decide), e1 133 t (by omega), zi_c (by decide), zi_c (by decide), zi_get, if_pos ⟨rfl, rfl⟩]
      · rw [zi_c (by decide), e1 134 t (by omega), zi_c (by decide), zi_get, if_pos ⟨rfl, rfl⟩]
      · rw [zi_c (by decide), e1 135 t (by omega), zi_get, if_pos ⟨rfl, rfl⟩]
      · rw [zi_c (by decide)]
        exact e3 y x hy hx
      · rw [zi_k (by decide), e1 73 85 (by omega), zi_c (by decide), zi_c (by decide), zi_c (by decide)]
        exact q3
    refine b_Mo_variable_103 (vp_in_nI hj (by omega)) (by rw [f97]; exact vp_in_nI ht (by omega)) (fun y => b_Mo_variable_135 ?_) (fun y => b_Mo_variable_131 ?_)
    · rw [f97, ct, cj, f89]
      have : 0 < z := by
        rcases Nat.eq_zero_or_pos z with q | q
        · rw [q] at y
          exact absurd rfl y
        · exact q
      rw [show max 1 z = z by omega] at go ⊢
      exact go
    · rw [f97, ct, cj, f89]
      have : z = 0 := (nI_eq (b := 0) (by omega) (by omega)).mp y
      rw [show max 1 z = 1 by omega] at go ⊢
      exact go
  have cz : zMv l Gr (zc n w) 168 M_Mo_constantZ (d + 4) [.ref 105, .long 0, .int (nI m)] B1 (fun B' => MEc B1 B' ∧ FM (fun c i => c = 125 ∧ i < 40) B1 B' ∧ ∀ i, i < m → B'.1 125 i = bC ((0 : Nat).testBit i)) := wm_constZ (v := 0) hm2 (by omega) MEc_rfl
  have fz : ∀ B2 : zS, MEc B1 B2 → FM (fun c i => c = 125 ∧ i < 40) B1 B2 → ∀ c k, ¬ (c = 73 ∧ k = 8) → ¬ (c = 125 ∧ k < 40) → B2.1 c k = B1.1 c k := fun B2 M2 F2 c k q1 q2 => by
    by_cases z1 : c = 73 ∧ (k = 7 ∨ k = 66 ∨ k = 67 ∨ k = 68)
    · rw [z1.1]
      exact M2.1 k (by omega)
    · by_cases z2 : 111 ≤ c ∧ c ≤ 114
      · exact M2.2 c k (Or.inl z2)
      · exact F2.1 c k (by omega) z2 q2
  have f8 : ∀ B2 : zS, MEc B1 B2 → B2.1 73 8 = B1.1 73 8 := fun B2 M2 => M2.1 8 (by omega)
  rcases hv with ⟨h82, h85, hh, eV⟩ | ⟨h82, h85, eV⟩
  · refine b_Mo_variable_10 (vp_in_nI hj (by omega)) (fun y => absurd y (by rw [cj, h82]; exact wzz.2.2.2)) (fun _ => b_Mo_variable_24 (b_Mo_variable_29 hg (vp_in_nI hj (by omega)) cz (fun B2 k2 => ?_)))
    rw [cj, h82, wzz.2.1]
    refine b_Mo_variable_52 (fun y => absurd y (by decide)) (fun _ => b_Mo_variable_56 ?_)
    have e85 : B2.1 73 85 = nI (h + 1) := (fz B2 k2.1 k2.2.1 73 85 (by omega) (by omega)).trans h85
    rw [e85, nI_pred]
    refine mv_69 (T := zi B2 73 85 (nI h)) (q := h) hm2 hh m 0 _ (by omega) (fun _ _ _ => rfl) (fun _ _ => rfl) (by rw [zi_get, if_pos ⟨rfl, rfl⟩]) (fun i hi => absurd hi (by omega)) (fun B3 d1 d2 d3 => tail B3 (fun c k q1 q2 => ?_) (fun c k => ?_) ?_ (fun i hi => ?_))
    · rw [d1 c k q2, zi_get, if_neg q1]
      by_cases q8 : c = 73 ∧ k = 8
      · rw [q8.1, q8.2]
        exact f8 B2 k2.1
      · exact fz B2 k2.1 k2.2.1 c k q8 q2
    · rw [d2 c k]
      exact k2.2.1.2 c k
    · rw [d1 73 85 (by omega), zi_get, if_pos ⟨rfl, rfl⟩]
    · rw [d3 i hi, zi_c (by decide), fz B2 k2.1 k2.2.1 122 _ (by omega) (by omega), eV]
  · refine b_Mo_variable_10 (vp_in_nI hj (by omega)) (fun _ => b_Mo_variable_28 (b_Mo_variable_29 hg (vp_in_nI hj (by omega)) cz (fun B2 k2 => ?_))) (fun y => absurd (by rw [cj, h82]; exact wzz.2.2.1) y)
    rw [cj, h82, wzz.1]
    refine b_Mo_variable_52 (fun _ => tail B2 (fun c k q1 q2 => ?_) (fun c k => k2.2.1.2 c k) ((fz B2 k2.1 k2.2.1 73 85 (by omega) (by omega)).trans h85) (fun i hi => ?_)) (fun y => absurd rfl y)
    · by_cases q8 : c = 73 ∧ k = 8
      · rw [q8.1, q8.2]
        exact f8 B2 k2.1
      · exact fz B2 k2.1 k2.2.1 c k q8 q2
    · rw [k2.2.2 i hi, eV, Nat.zero_testBit]
      rfl
end VAI
