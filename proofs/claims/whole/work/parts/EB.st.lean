/-! a[i] = EXPR, i not PUBLIC: one program -/
def stoP (w m : Nat) (X V : Nat → Int32) (L : Nat → Nat → Int32) : Nat → Nat → (Nat → Nat → Int32) → CP (Nat → Nat → Int32)
  | 0, _, R => cRet R
  | c + 1, k, R => cBind (idxP X k w) fun e => cBind (muxsP e V (L k) m 0) fun os => stoP w m X V L c (k + 1) (fun k' => if k' = k then lf os else R k')
def VFf (T : zS) (f : Nat → Nat → Int32) : Prop := ∀ k j, VC T (f k j)
section STO
variable {l : Launch} {Gr : zG} {n w : Nat} {d : Nat} {S A A0 T B B0 : zS} {e x y x1 x2 x4 : Int32} {X V : Nat → Int32} {L : Nat → Nat → Int32} {Q : Option Value → zS → Prop} {a b m i o r v q j z c k u : Nat}
theorem BU_sto : ∀ (c k : Nat) (R : Nat → Nat → Int32), BU (stoP w m X V L c k R)
  | 0, _, _ => BU_ret
  | c + 1, k, _ => BU_bind BU_idx (fun _ => BU_bind (BU_muxs _ _) (fun _ => BU_sto c (k + 1) _))
theorem W_sto : ∀ (c k : Nat) (R : Nat → Nat → Int32) (T : zS), (∀ j, VC T (X j)) → (∀ j, VC T (V j)) → (∀ k j, VC T (L k j)) → VFf T R → mWF VFf (stoP w m X V L c k R) T
  | 0, _, _, _, _, _, _, hR => mWF_ret hR
  | c + 1, k, R, T, hX, hV, hL, hR => mWF_seq (fun _ => BU_bind (BU_muxs _ _) (fun _ => BU_sto c (k + 1) _)) (W_idx hX) (fun T1 e m1 he => mWF_seq (fun _ => BU_sto c (k + 1) _) (W_muxs m 0 T1 he (fun j => m1 _ (hV j)) (fun j => m1 _ (hL k j))) (fun T2 os m2 h2 => W_sto c (k + 1) _ T2 (fun j => m2 _ (m1 _ (hX j))) (fun j => m2 _ (m1 _ (hV j))) (fun k j => m2 _ (m1 _ (hL k j))) (fun k' j => by
      show VC T2 ((if k' = k then lf os else R k') j)
      split
      · exact h2 j
      · exact m2 _ (m1 _ (hR k' j)))))
/-- what a store may change: row 55, and the words -/
def P58 (w a z : Nat) : Nat → Nat → Prop := fun c i => c = 55 ∨ (c = 58 ∧ a * w ≤ i ∧ i < (a + z) * w)
theorem ke_128 (hg : ip_gk (lg_tbl, vwCl, Gr)) (hw : w ≤ 32) (hw1 : 1 ≤ w) (hu : u < 800) (hr : r ≤ 1) (hm : m = if r = 1 then 1 else w) (h12 : A0.1 12 u = nI r) (hk : k < z) (haz : a + z ≤ 256) (hb : b + w ≤ 9682 * w) (hV : ∀ i, i < m → A0.1 57 (b + i) = V i) {Lk : Nat → Int32} : ∀ (c x : Nat) (S A : zS), x + c = m → KEc S A → GK S → FK (P58 w a z) A0 A → (∀ i, x ≤ i → i < m → A.1 58 ((a + k) * w + i) = Lk i) → (∀ A', KEc ((muxsP e V Lk c x).1 S).2 A' → FK (P58 w a z) A0 A' → (∀ i, i < c → A'.1 58 ((a + k) * w + (x + i)) = ((muxsP e V Lk c x).1 S).1.getD i (-2)) → (∀ i, ¬ ((a + k) * w + x ≤ i ∧ i < (a + k) * w + m) → A'.1 58 i = A.1 58 i) → zW l Gr (zc n w) 168 M_Builder_storeElement (d + 5) 190 [some (.ref 77), none, some (.int (nI u)), some (.int (nI b)), some (.int (nI k)), none, none, none] [] A' Q) → zW l Gr (zc n w) 168 M_Builder_storeElement (d + 5) 128 [some (.ref 77), none, some (.int (nI u)), some (.int (nI b)), some (.int (nI k)), some (.int e), some (.int (nI ((a + k) * w))), some (.int (nI x))] [] A Q := by
  have c0 : ((nI u : Int32)).toNatClampNeg = u := nI_clamp (by omega)
  have hmul : 9682 * w ≤ 9682 * 32 := Nat.mul_le_mul_left _ hw
  have hmw : m ≤ w := by rw [hm]; split <;> omega
  have m1 : (a + k) * w + w ≤ (a + z) * w := by rw [← Nat.succ_mul]; exact Nat.mul_le_mul_right _ (by omega)
  have m2 : (a + z) * w ≤ 256 * w := Nat.mul_le_mul_right _ haz
  have m3 : 256 * w ≤ 256 * 32 := Nat.mul_le_mul_left _ hw
  have m4 : a * w ≤ (a + k) * w := Nat.mul_le_mul_right _ (by omega)
  have hbl : ∀ (A : zS) (Q' : Option Value → zS → Prop) (x : Nat), FK (P58 w a z) A0 A → zW l Gr (zc n w) 168 M_Builder_storeElement (d + 5) 143 [some (.ref 77), none, some (.int (nI u)), some (.int (nI b)), some (.int (nI k)), some (.int e), some (.int (nI ((a + k) * w))), some (.int (nI x))] [.int (nI m), .int (nI x)] A Q' → zW l Gr (zc n w) 168 M_Builder_storeElement (d + 5) 128 [some (.ref 77), none, some (.int (nI u)), some (.int (nI b)), some (.int (nI k)), some (.int e), some (.int (nI ((a + k) * w))), some (.int (nI x))] [] A Q' := fun A Q' x hF q => by
    refine b_Builder_storeElement_128 hg (vp_in_nI hu (by omega)) w_bitsOf (fun v A' k => ?_)
    rw [k.2, k.1, c0, hF.1 12 u (by omega) (by omega) (by unfold P58; omega), h12]
    by_cases z : r = 1
    · rw [if_pos z] at hm
      rw [if_pos (by rw [z]; rfl)]
      rw [hm] at q
      exact q
    · rw [if_neg z] at hm
      rw [if_neg (show ¬ nI r = 1 from fun y => z ((nI_eq (b := 1) (by omega) (by omega)).mp y))]
      rw [hm] at q
      exact q
  intro c
  induction c with
  | zero =>
    intro x S A h hK hG hF h1 hQ
    exact hbl A Q x hF (b_Builder_storeElement_143 (fun _ => hQ A hK hF (fun i hi => absurd hi (by omega)) (fun _ _ => rfl)) (fun z => absurd (nI_le (a := m) (b := x) (by omega) (by omega)) z))
  | succ c ih =>
    intro x S A h hK hG hF h1 hQ
    have o1 := k_run (BU_mux (c := e) (x := V x) (y := Lk x)) hG
    have v57 : A.1 57 (b + x) = V x := (hF.1 57 _ (by omega) (by omega) (by unfold P58; omega)).trans (hV x (by omega))
    refine hbl A Q x hF (b_Builder_storeElement_143 (fun z => absurd z (nI_ge (a := x) (b := m) (by omega) (by omega))) (fun _ => b_Builder_storeElement_146 hg (by rw [nI_add]; exact vp_in_nI (by omega) (by omega)) (by rw [nI_add]; exact vp_in_nI (by omega) (by omega)) (by
      rw [nI_add, nI_add, nI_clamp (by omega), nI_clamp (by omega), v57, h1 x (Nat.le_refl _) (by omega)]
      exact w_muxK (d := d + 1) hg hK hG) (fun v A1 k1 => ?_)))
    obtain ⟨ev, K1, F1⟩ := k1
    subst ev
    rw [nI_add]
    refine b_Builder_storeElement_183 (vp_in_nI (by omega) (by omega)) ?_
    rw [nI_clamp (by omega), show nI x + Int32.ofInt 1 = nI (x + 1) from nI_add x 1]
    have FF : FK (P58 w a z) A0 (zi A1 58 ((a + k) * w + x) ((muxP e (V x) (Lk x)).1 S).1) := FK_tr (P'' := P58 w a z) hF (FK_tr (P'' := P58 w a z) (FK_x (P := P58 w a z) F1) (FK_zi (P := P58 w a z) (Or.inr ⟨rfl, by omega, by omega⟩)) (fun _ _ z => z) (fun _ _ z => z)) (fun _ _ z => z) (fun _ _ z => z)
    have f58 : ∀ i, A1.1 58 i = A.1 58 i := fun i => F1.1 58 i (by omega) (by omega)
    refine ih (x + 1) _ _ (by omega) (KEc_zi K1 (by omega)) o1.1 FF (fun i q1 q2 => ?_) (fun A' e1 e2 e3 e4 => hQ A' e1 e2 (fun i hi => ?_) (fun i hi => ?_))
    · rw [zi_get, if_neg (by omega), f58]
      exact h1 i (by omega) q2
    · cases i with
      | zero => exact (e4 _ (by omega)).trans zi_v
      | succ i => exact (congrArg (A'.1 58) (by omega)).trans (e3 i (by omega))
    · rw [e4 i (by omega), zi_get, if_neg (by omega), f58]
theorem ke_73 (hg : ip_gk (lg_tbl, vwCl, Gr)) (hw : w ≤ 32) (hw1 : 1 ≤ w) (hu : u < 800) (hr : r ≤ 1) (hm : m = if r = 1 then 1 else w) (hz : z ≤ 64) (haz : a + z ≤ 256) (hb : b + w + w ≤ 9682 * w) (h12 : A0.1 12 u = nI r) (h13 : A0.1 13 u = nI z) (h14 : A0.1 14 u = nI a) (h8 : A0.1 45 8 = nI b) (hX : ∀ j, j < w → A0.1 57 (b + j) = X j) (hV : ∀ i, i < m → A0.1 57 (b + w + i) = V i) (hL : ∀ k i, k < z → i < m → A0.1 58 ((a + k) * w + i) = L k i) : ∀ (c k : Nat) (R : Nat → Nat → Int32) (S A : zS), k + c = z → KEc S A → GK S → FK (P58 w a z) A0 A → (∀ k' i, k' < z → i < m → A.1 58 ((a + k') * w + i) = if k' < k then R k' i else L k' i) → (∀ k' i, k' < z → m ≤ i → i < w → A.1 58 ((a + k') * w + i) = A0.1 58 ((a + k') * w + i)) → (∀ A', KEc ((stoP w m X V L c k R).1 S).2 A' → FK (P58 w a z) A0 A' → (∀ k' i, k' < z → i < m → A'.1 58 ((a + k') * w + i) = ((stoP w m X V L c k R).1 S).1 k' i) → (∀ k' i, k' < z → m ≤ i → i < w → A'.1 58 ((a + k') * w + i) = A0.1 58 ((a + k') * w + i)) → Q none A') → zW l Gr (zc n w) 168 M_Builder_storeElement (d + 5) 73 [some (.ref 77), none, some (.int (nI u)), some (.int (nI (b + w))), some (.int (nI k)), none, none, none] [] A Q
  | 0, k, R, S, A, h, hK, hG, hF, h1, h2, hQ => b_Builder_storeElement_73 (vp_in_nI hu (by omega)) (fun _ => b_Builder_storeElement_196 (hQ A hK hF (fun k' i q1 q2 => by rw [h1 k' i q1 q2, if_pos (by omega)]; rfl) h2)) (fun q => absurd (by rw [nI_clamp (by omega), hF.1 13 u (by omega) (by omega) (by unfold P58; omega), h13]; exact nI_le (by omega) (by omega)) q)
  | c + 1, k, R, S, A, h, hK, hG, hF, h1, h2, hQ => by
    have hmw : m ≤ w := by rw [hm]; split <;> omega
    have f57 : ∀ (A : zS), FK (P58 w a z) A0 A → ∀ i, A.1 57 i = A0.1 57 i := fun A hF i => hF.1 57 _ (by omega) (by omega) (by unfold P58; omega)
    have f8 : A.1 45 8 = nI b := (hF.1 45 8 (by omega) (by omega) (by unfold P58; omega)).trans h8
    have o1 := k_run (BU_idx (X := X) (v := k) (w := w)) hG
    refine b_Builder_storeElement_73 (vp_in_nI hu (by omega)) (fun q => absurd q (by rw [nI_clamp (by omega), hF.1 13 u (by omega) (by omega) (by unfold P58; omega), h13]; exact nI_ge (by omega) (by omega))) (fun _ => b_Builder_storeElement_87 hg (R := fun r A' => r = ((idxP X k w).1 S).1 ∧ KEc ((idxP X k w).1 S).2 A' ∧ FK (fun c j => c = 55 ∧ j < w) A A') (by rw [f8]; exact w_equalTo hg hw hw1 (by omega) (by omega) hK hG (fun j hj => (f57 A hF _).trans (hX j hj))) (fun v A1 k1 => ?_))
    obtain ⟨ev, K1, F1⟩ := k1
    subst ev
    have FF : FK (P58 w a z) A0 A1 := FK_tr (P'' := P58 w a z) hF F1 (fun _ _ z => z) (fun c j z => Or.inl z.1)
    have g58 : ∀ i, A1.1 58 i = A.1 58 i := fun i => F1.1 58 i (by omega) (by omega) (by omega)
    refine b_Builder_storeElement_104 (vp_in_nI hu (by omega)) ?_
    rw [nI_clamp (by omega), FF.1 14 u (by omega) (by omega) (by unfold P58; omega), h14, nI_add, nI_mul]
    refine ke_128 (V := V) (Lk := L k) (b := b + w) hg hw hw1 hu hr hm h12 (by omega) haz (by omega) hV m 0 _ A1 (by omega) K1 o1.1 FF (fun i _ hi => by rw [g58, h1 k i (by omega) hi, if_neg (by omega)]) (fun A2 e1 e2 e3 e4 => b_Builder_storeElement_190 ?_)
    rw [show nI k + Int32.ofInt 1 = nI (k + 1) from nI_add k 1]
    have ot : ∀ k' i, k' ≠ k → i < w → ¬ ((a + k) * w + 0 ≤ (a + k') * w + i ∧ (a + k') * w + i < (a + k) * w + m) := fun k' i hk hi => by
      rcases Nat.lt_or_gt_of_ne hk with q | q
      · have : (a + k') * w + w ≤ (a + k) * w := by rw [← Nat.succ_mul]; exact Nat.mul_le_mul_right _ (by omega)
        omega
      · have : (a + k) * w + w ≤ (a + k') * w := by rw [← Nat.succ_mul]; exact Nat.mul_le_mul_right _ (by omega)
        omega
    refine ke_73 hg hw hw1 hu hr hm hz haz hb h12 h13 h14 h8 hX hV hL c (k + 1) _ _ A2 (by omega) e1 (k_run (BU_muxs m 0) o1.1).1 e2 (fun k' i q1 q2 => ?_) (fun k' i q1 q2 q3 => ?_) hQ
    · by_cases ek : k' = k
      · subst ek
        rw [if_pos (by omega), if_pos rfl]
        have := e3 i q2
        rw [Nat.zero_add] at this
        exact this
      · rw [e4 _ (ot k' i ek (by omega)), g58, h1 k' i q1 q2]
        by_cases q : k' < k
        · rw [if_pos q, if_pos (by omega), if_neg ek]
        · rw [if_neg q, if_neg (by omega)]
    · by_cases ek : k' = k
      · subst ek
        rw [e4 _ (by omega), g58]
        exact h2 k' i q1 q2 q3
      · rw [e4 _ (ot k' i ek q3), g58]
        exact h2 k' i q1 q2 q3
end STO
