/-! a[i] = EXPR: both sides' instructions -/
def OSk (S A A' : zS) (b w m a z : Nat) (O : Nat → Nat → Int32) : Prop := KEc S A' ∧ FK (fun c i => (c = 45 ∧ i = 8) ∨ P58 w a z c i) A A' ∧ A'.1 45 8 = nI b ∧ (∀ k x, k < z → x < m → A'.1 58 ((a + k) * w + x) = O k x) ∧ ∀ k x, k < z → m ≤ x → x < w → A'.1 58 ((a + k) * w + x) = A.1 58 ((a + k) * w + x)
def P32 (a z : Nat) : Nat → Nat → Prop := fun c i => ((123 ≤ c ∧ c ≤ 130) ∧ i < 40) ∨ (c = 132 ∧ 32 * a ≤ i ∧ i < 32 * (a + z))
def OSm (T B B' : zS) (q m a z : Nat) (O : Nat → Nat → Int32) : Prop := MEc T B' ∧ FM (fun c i => (c = 73 ∧ i = 85) ∨ c = 146 ∨ P32 a z c i) B B' ∧ B'.1 73 85 = nI q ∧ (∀ k x, k < z → x < m → B'.1 132 (32 * (a + k) + x) = O k x) ∧ ∀ k x, k < z → m ≤ x → x < 32 → B'.1 132 (32 * (a + k) + x) = B.1 132 (32 * (a + k) + x)
section STE
variable {l : Launch} {Gr : zG} {n w : Nat} {d : Nat} {S A A0 T B B0 : zS} {e x y x1 x2 x4 : Int32} {X V : Nat → Int32} {L : Nat → Nat → Int32} {Q : Option Value → zS → Prop} {a b m i o r v q j z c k u : Nat}
theorem w_12b (hj : j < 4000) (hj5 : A.1 5 j = nI i) {R : zS → Prop} (hg : ip_gk (lg_tbl, vwCl, Gr)) (q : zMv l Gr (zc n w) 168 M_Builder_storeElement (d + 6) [.ref 77, .int (nI i)] A R) : zMv l Gr (zc n w) 168 M_Builder_buildStatement (d + 7) [.ref 77, .int (nI j), .int 12] A R := by
  have cj : ((nI j : Int32)).toNatClampNeg = j := nI_clamp (by omega)
  refine e_Builder_buildStatement (b_Builder_buildStatement_0 (vp_in_nI hj (by omega)) (fun y => absurd y (by decide)) (fun y => absurd y (by decide)) (fun y => absurd y (by decide)) (fun y => absurd y (by decide)) (fun y => absurd y (by decide)) (fun y => absurd y (by decide)) (fun _ => ?_) (fun y => absurd y (by decide)) (fun _ _ _ _ _ _ y => absurd rfl y))
  rw [cj, hj5]
  exact b_Builder_buildStatement_217 hg q (fun A' k => b_Builder_buildStatement_222 (b_Builder_buildStatement_267 ⟨rfl, k⟩))
theorem w_st12N (hg : ip_gk (lg_tbl, vwCl, Gr)) (hw : w ≤ 32) (hw1 : 1 ≤ w) (hj : j < 4000) (hi : i < 4000) (hu : u < 800) (hr : r ≤ 1) (hm : m = if r = 1 then 1 else w) (hz : z ≤ 64) (haz : a + z ≤ 256) (hj5 : A.1 5 j = nI i) (h5 : A.1 5 i = nI u) (h7 : A.1 7 i = 0) (h12 : A.1 12 u = nI r) (h13 : A.1 13 u = nI z) (h14 : A.1 14 u = nI a) (h8 : A.1 45 8 = nI (b + w + w)) (hb : b + w + w ≤ 9682 * w) (hX : ∀ x, x < w → A.1 57 (b + x) = X x) (hV : ∀ x, x < m → A.1 57 (b + w + x) = V x) (hL : ∀ k x, k < z → x < m → A.1 58 ((a + k) * w + x) = L k x) (hK : KEc S A) (hG : GK S) : zMv l Gr (zc n w) 168 M_Builder_buildStatement (d + 7) [.ref 77, .int (nI j), .int 12] A (fun A' => OSk ((stoP w m X V L z 0 L).1 S).2 A A' b w m a z ((stoP w m X V L z 0 L).1 S).1) := by
  have ci : ((nI i : Int32)).toNatClampNeg = i := nI_clamp (by omega)
  have e8 : A.1 45 8 - 2 * nI w = nI b := by rw [h8, nI_mul2, show b + w + w = b + 2 * w by omega, nI_subb]
  refine w_12b hj hj5 hg (e_Builder_storeElement (b_Builder_storeElement_0 (vp_in_nI hi (by omega)) (fun _ => b_Builder_storeElement_70 ?_) (fun y => absurd (by rw [ci]; exact h7) y)))
  rw [ci, h5, e8, nI_add]
  have F0 : FK (fun c i => (c = 45 ∧ i = 8) ∨ P58 w a z c i) A (zi A 45 8 (nI b)) := FK_zi (P := fun c i => (c = 45 ∧ i = 8) ∨ P58 w a z c i) (Or.inl ⟨rfl, rfl⟩)
  refine ke_73 (A0 := zi A 45 8 (nI b)) (X := X) (V := V) (L := L) (d := d + 1) hg hw hw1 hu hr hm hz haz hb (by rw [zi_c (by decide)]; exact h12) (by rw [zi_c (by decide)]; exact h13) (by rw [zi_c (by decide)]; exact h14) zi_v (fun x hx => by rw [zi_c (by decide)]; exact hX x hx) (fun x hx => by rw [zi_c (by decide)]; exact hV x hx) (fun k x hk hx => by rw [zi_c (by decide)]; exact hL k x hk hx) z 0 L S _ (by omega) (KEc_zi hK (by omega)) hG FK_rfl (fun k x hk hx => by rw [if_neg (by omega), zi_c (by decide)]; exact hL k x hk hx) (fun _ _ _ _ _ => rfl) (fun A' e1 e2 e3 e4 => ⟨rfl, e1, FK_tr (P'' := fun c i => (c = 45 ∧ i = 8) ∨ P58 w a z c i) F0 e2 (fun _ _ z => z) (fun _ _ z => Or.inr z), ?_, e3, fun k x q1 q2 q3 => ?_⟩)
  · rw [e2.1 45 8 (by omega) (by omega) (by unfold P58; omega)]
    exact zi_v
  · rw [e4 k x q1 q2 q3, zi_c (by decide)]
theorem w_st12P (hg : ip_gk (lg_tbl, vwCl, Gr)) (hw : w ≤ 32) (hw1 : 1 ≤ w) (hj : j < 4000) (hi : i < 4000) (hu : u < 800) (hr : r ≤ 1) (hm : m = if r = 1 then 1 else w) (hz : z ≤ 64) (haz : a + z ≤ 256) (hj5 : A.1 5 j = nI i) (h5 : A.1 5 i = nI u) (h7 : ¬ A.1 7 i = 0) (h12 : A.1 12 u = nI r) (h14 : A.1 14 u = nI a) (h8 : A.1 45 8 = nI (b + w + w)) (hb : b + w + w ≤ 9682 * w) (hX : ∀ x, x < w → A.1 57 (b + x) = X x) (hV : ∀ x, x < m → A.1 57 (b + w + x) = V x) (hL : ∀ k x, k < z → x < m → A.1 58 ((a + k) * w + x) = L k x) (hv : nvb (xbo X) w 0 < z) : zMv l Gr (zc n w) 168 M_Builder_buildStatement (d + 7) [.ref 77, .int (nI j), .int 12] A (fun A' => OSk A A A' b w m a z (fun k x => if k = nvb (xbo X) w 0 then V x else L k x)) := by
  have ci : ((nI i : Int32)).toNatClampNeg = i := nI_clamp (by omega)
  have e8 : A.1 45 8 - 2 * nI w = nI b := by rw [h8, nI_mul2, show b + w + w = b + 2 * w by omega, nI_subb]
  have hmw : m ≤ w := by rw [hm]; split <;> omega
  refine w_12b hj hj5 hg (e_Builder_storeElement (b_Builder_storeElement_0 (vp_in_nI hi (by omega)) (fun y => absurd (by rw [ci] at y; exact y) h7) (fun _ => b_Builder_storeElement_47 hg (R := fun v A' => v = Int64.ofNat (nvb (xbo X) w 0) ∧ A' = zi A 45 8 (nI b)) ?_ (fun v A1 k1 => ?_))))
  · rw [e8, zi_v]
    exact w_numb hw (by omega) (fun x hx => by rw [zi_c (by decide)]; exact hX x hx)
  · rw [k1.1, k1.2, ci, h5, e8, nI_add]
    refine b_Builder_storeElement_64 hg (R := fun A' => A' = zI (zi A 45 8 (nI b)) 58 (va_cpy ((zi A 45 8 (nI b)).1 57) ((zi A 45 8 (nI b)).1 58) (b + w) ((a + nvb (xbo X) w 0) * w) m)) (by
      rw [show (Int64.ofNat (nvb (xbo X) w 0)).toInt32 = nI (nvb (xbo X) w 0) from lN_i _]
      exact w_keep (d := d + 4) (A := zi A 45 8 (nI b)) hg hw hw1 hu hr hm (by rw [zi_c (by decide)]; exact h12) (by rw [zi_c (by decide)]; exact h14) (by omega) hb) (fun A' k => b_Builder_storeElement_69 ⟨rfl, ?_⟩)
    subst k
    have ot : ∀ k' x, k' ≠ nvb (xbo X) w 0 → x < w → ¬ ((a + nvb (xbo X) w 0) * w ≤ (a + k') * w + x ∧ (a + k') * w + x < (a + nvb (xbo X) w 0) * w + m) := fun k' x hk hi => by
      rcases Nat.lt_or_gt_of_ne hk with q | q
      · have : (a + k') * w + w ≤ (a + nvb (xbo X) w 0) * w := by rw [← Nat.succ_mul]; exact Nat.mul_le_mul_right _ (by omega)
        omega
      · have : (a + nvb (xbo X) w 0) * w + w ≤ (a + k') * w := by rw [← Nat.succ_mul]; exact Nat.mul_le_mul_right _ (by omega)
        omega
    have m1 : (a + nvb (xbo X) w 0) * w + w ≤ (a + z) * w := by rw [← Nat.succ_mul]; exact Nat.mul_le_mul_right _ (by omega)
    have m4 : a * w ≤ (a + nvb (xbo X) w 0) * w := Nat.mul_le_mul_right _ (by omega)
    refine ⟨KEc_zI (KEc_zi KEc_rfl (by omega)) (by omega), FK_tr (P'' := fun c i => (c = 45 ∧ i = 8) ∨ P58 w a z c i) (FK_zi (P := fun c i => (c = 45 ∧ i = 8) ∨ P58 w a z c i) (Or.inl ⟨rfl, rfl⟩)) (FK_zI (P := fun c i => (c = 45 ∧ i = 8) ∨ P58 w a z c i) (fun t ht => ?_)) (fun _ _ z => z) (fun _ _ z => z), by rw [zI_c (by decide)]; exact zi_v, fun k x hk hx => ?_, fun k x hk hx hx2 => ?_⟩
    · have ht : ¬ ((58 = 45 ∧ t = 8) ∨ P58 w a z 58 t) := ht
      unfold P58 at ht
      exact pk_cpy_out (by omega)
    · rw [zI_get, if_pos rfl]
      by_cases ek : k = nvb (xbo X) w 0
      · rw [ek, pk_cpy_in (by omega) (by omega), show (a + nvb (xbo X) w 0) * w + x - (a + nvb (xbo X) w 0) * w = x by omega, zi_c (by decide), hV x hx]
        show V x = if nvb (xbo X) w 0 = nvb (xbo X) w 0 then V x else _
        rw [if_pos rfl]
      · rw [pk_cpy_out (by have := ot k x ek (by omega); omega), zi_c (by decide), hL k x hk hx]
        show L k x = if k = nvb (xbo X) w 0 then V x else L k x
        rw [if_neg ek]
    · rw [zI_get, if_pos rfl, pk_cpy_out, zi_c (by decide)]
      by_cases ek : k = nvb (xbo X) w 0
      · rw [ek]
        omega
      · have := ot k x ek hx2
        omega
end STE
