/-! a[i] that is not PUBLIC: one program -/
def rowP (e : Int32) (L R : Nat → Int32) : Nat → Nat → CP (List Int32)
  | 0, _ => cRet []
  | k + 1, j => cOp true e (L j) fun v => cOp false (R j) v fun o => cBind (rowP e L R k (j + 1)) fun os => cRet (o :: os)
def eltP (w m : Nat) (X : Nat → Int32) (L : Nat → Nat → Int32) : Nat → Nat → (Nat → Int32) → CP (Nat → Int32)
  | 0, _, R => cRet R
  | c + 1, k, R => cBind (idxP X k w) fun e => cBind (rowP e (L k) R m 0) fun os => eltP w m X L c (k + 1) (lf os)
section ELT
variable {l : Launch} {Gr : zG} {n w : Nat} {d : Nat} {S A A0 T B B0 : zS} {e x y x1 x2 x4 : Int32} {X Y F O R : Nat → Int32} {L : Nat → Nat → Int32} {Q : Option Value → zS → Prop} {a b m i o r v q j z c k u : Nat}
theorem BU_row {L R : Nat → Int32} : ∀ (k j : Nat), BU (rowP e L R k j)
  | 0, _ => BU_ret
  | k + 1, j => BU_op (fun _ => BU_op (fun _ => BU_bind (BU_row k (j + 1)) (fun _ => BU_ret)))
theorem BU_elt : ∀ (c k : Nat) (R : Nat → Int32), BU (eltP w m X L c k R)
  | 0, _, _ => BU_ret
  | c + 1, k, _ => BU_bind BU_idx (fun _ => BU_bind (BU_row _ _) (fun _ => BU_elt c (k + 1) _))
theorem W_row {L R : Nat → Int32} : ∀ (k j : Nat) (T : zS), VC T e → (∀ j, VC T (L j)) → (∀ j, VC T (R j)) → mWF VLs (rowP e L R k j) T
  | 0, _, _, _, _, _ => mWF_ret (fun j => by rw [show ([] : List Int32).getD j (-2) = -2 from rfl]; exact VC_c2)
  | k + 1, j, T, he, hL, hR => mWF_op (fun _ => BU_op (fun _ => BU_bind (BU_row k (j + 1)) (fun _ => BU_ret))) he (hL j) (fun T1 v m1 hv => mWF_op (fun _ => BU_bind (BU_row k (j + 1)) (fun _ => BU_ret)) (VC_m m1 (hR j)) hv (fun T2 o m2 ho => mWF_seq (fun _ => BU_ret) (W_row k (j + 1) T2 (VC_m m2 (VC_m m1 he)) (fun j => VC_m m2 (VC_m m1 (hL j))) (fun j => VC_m m2 (VC_m m1 (hR j)))) (fun T3 os m3 h3 => mWF_ret (fun j => by
      cases j with
      | zero => exact m3 _ ho
      | succ j => exact h3 j))))
theorem W_elt : ∀ (c k : Nat) (R : Nat → Int32) (T : zS), (∀ j, VC T (X j)) → (∀ k j, VC T (L k j)) → (∀ j, VC T (R j)) → mWF VFs (eltP w m X L c k R) T
  | 0, _, _, _, _, _, hR => mWF_ret hR
  | c + 1, k, R, T, hX, hL, hR => mWF_seq (fun _ => BU_bind (BU_row _ _) (fun _ => BU_elt c (k + 1) _)) (W_idx hX) (fun T1 e m1 he => mWF_seq (fun _ => BU_elt c (k + 1) _) (W_row m 0 T1 he (fun j => m1 _ (hL k j)) (fun j => m1 _ (hR j))) (fun T2 os m2 h2 => W_elt c (k + 1) (lf os) T2 (fun j => m2 _ (m1 _ (hX j))) (fun k j => m2 _ (m1 _ (hL k j))) h2))
theorem row_len {L R : Nat → Int32} : ∀ (c j : Nat) (S : zS), ((rowP e L R c j).1 S).1.length = c
  | 0, _, _ => rfl
  | c + 1, j, _ => congrArg Nat.succ (row_len c (j + 1) _)
theorem gd_no {os : List Int32} {i : Nat} (h : os.length ≤ i) : os.getD i (-2) = -2 := by simp [List.getD, List.getElem?_eq_none h]
theorem fl_88 (hw : w ≤ 32) (v : Int32) {Q : Option Value → zS → Prop} (k : Q none (zfill S 56 v w)) : ∀ (j i : Nat), i + j = w → zW l Gr (zc n w) 168 M_Arrays_fill_78e d 5 [some (.ref 88), some (.int v), some (.int (nI i)), some (.int (nI w))] [] (zfill S 56 v i) Q
  | 0, i, h => b_Arrays_fill_78e_r88_5 (fun _ => b_Arrays_fill_78e_r88_20 (by rw [show i = w by omega]; exact k)) (fun q => absurd (nI_le (a := w) (b := i) (by omega) (by omega)) q)
  | j + 1, i, h => b_Arrays_fill_78e_r88_5 (fun q => absurd q (nI_ge (a := i) (b := w) (by omega) (by omega))) (fun _ => b_Arrays_fill_78e_r88_10 (vp_in_nI (by omega) (by omega)) (by
      rw [nI_clamp (by omega), zfill_s, show nI i + Int32.ofInt 1 = nI (i + 1) from nI_add i 1]
      exact fl_88 hw v k j (i + 1) (by omega)))
theorem m_fill_88 (hw : w ≤ 32) (v : Int32) : zMv l Gr (zc n w) 168 M_Arrays_fill_78e d [.ref 88, .int v] S (fun S' => S' = zfill S 56 v w) :=
  e_Arrays_fill_78e_r88 (b_Arrays_fill_78e_r88_0 (by
    have := fl_88 (l := l) (Gr := Gr) (n := n) (w := w) (d := d) (S := S) hw v (Q := fun v' S' => v' = none ∧ S' = zfill S 56 v w) ⟨rfl, rfl⟩ w 0 (by omega)
    rw [zfill_0] at this
    exact this))
def P56 : Nat → Nat → Prop := fun c _ => c = 55 ∨ c = 56
theorem kx_97 (hg : ip_gk (lg_tbl, vwCl, Gr)) (hw : w ≤ 32) (hw1 : 1 ≤ w) (hu : u < 800) (hr : r ≤ 1) (hm : m = if r = 1 then 1 else w) (h12 : A0.1 12 u = nI r) {L R : Nat → Int32} (lit : ∀ (j : Nat) (A : zS), j < m → FK P56 A0 A → zMi l Gr (zc n w) 168 M_Builder_literalOf (d + 4) [.ref 77, .int (nI u), .int (nI k), .int (nI j)] A (fun v A' => A' = A ∧ v = L j)) : ∀ (c j : Nat) (S A : zS), j + c = m → KEc S A → GK S → FK P56 A0 A → (∀ i, j ≤ i → i < m → A.1 56 i = R i) → (∀ A', KEc ((rowP e L R c j).1 S).2 A' → FK P56 A0 A' → (∀ i, i < c → A'.1 56 (j + i) = ((rowP e L R c j).1 S).1.getD i (-2)) → (∀ i, i < j ∨ m ≤ i → A'.1 56 i = A.1 56 i) → zW l Gr (zc n w) 168 M_Builder_readElement (d + 5) 160 [some (.ref 77), none, some (.int (nI u)), some (.int (nI a)), some (.int (nI k)), none, none] [] A' Q) → zW l Gr (zc n w) 168 M_Builder_readElement (d + 5) 97 [some (.ref 77), none, some (.int (nI u)), some (.int (nI a)), some (.int (nI k)), some (.int e), some (.int (nI j))] [] A Q := by
  have c0 : ((nI u : Int32)).toNatClampNeg = u := nI_clamp (by omega)
  have hmw : m ≤ w := by rw [hm]; split <;> omega
  have hb : ∀ (A : zS) (Q' : Option Value → zS → Prop) (j : Nat), FK P56 A0 A → zW l Gr (zc n w) 168 M_Builder_readElement (d + 5) 112 [some (.ref 77), none, some (.int (nI u)), some (.int (nI a)), some (.int (nI k)), some (.int e), some (.int (nI j))] [.int (nI m), .int (nI j)] A Q' → zW l Gr (zc n w) 168 M_Builder_readElement (d + 5) 97 [some (.ref 77), none, some (.int (nI u)), some (.int (nI a)), some (.int (nI k)), some (.int e), some (.int (nI j))] [] A Q' := fun A Q' j hF q => by
    refine b_Builder_readElement_97 hg (vp_in_nI hu (by omega)) w_bitsOf (fun v A' k => ?_)
    rw [k.2, k.1, c0, hF.1 12 u (by omega) (by omega) (by unfold P56; omega), h12]
    by_cases z : r = 1
    · rw [if_pos z] at hm
      rw [if_pos (by rw [z]; rfl)]
      rw [hm] at q
      exact q
    · rw [if_neg z] at hm
      rw [if_neg (show ¬ nI r = 1 from fun y => z ((nI_eq (b := 1) (by omega) (by omega)).mp y))]
      rw [hm] at q
      exact q
  intro c
  induction c with
  | zero =>
    intro j S A h hK hG hF h1 hQ
    exact hb A Q j hF (b_Builder_readElement_112 (fun _ => hQ A hK hF (fun i hi => absurd hi (by omega)) (fun _ _ => rfl)) (fun z => absurd (nI_le (a := m) (b := j) (by omega) (by omega)) z))
  | succ c ih =>
    intro j S A h hK hG hF h1 hQ
    have o1 := k_op (b := true) (x := e) (y := L j) hG
    have o2 := k_op (b := false) (x := R j) (y := (kOp true S e (L j)).1) o1.1
    refine hb A Q j hF (b_Builder_readElement_112 (fun z => absurd z (nI_ge (a := j) (b := m) (by omega) (by omega))) (fun _ => b_Builder_readElement_115 hg (vp_in_nI (by omega) (by omega)) (lit j A (by omega) hF) (fun v A1 k1 => ?_)))
    rw [k1.1, k1.2, nI_clamp (by omega), h1 j (Nat.le_refl _) (by omega)]
    refine b_Builder_readElement_147 hg (w_andK (d := d + 2) hg hK hG) (fun v2 A2 k2 => ?_)
    obtain ⟨ev2, K2, F2⟩ := k2
    subst ev2
    refine b_Builder_readElement_150 hg (w_xorK (d := d + 2) hg K2 o1.1) (fun v3 A3 k3 => ?_)
    obtain ⟨ev3, K3, F3⟩ := k3
    subst ev3
    refine b_Builder_readElement_153 (vp_in_nI (by omega) (by omega)) ?_
    rw [nI_clamp (by omega), show nI j + Int32.ofInt 1 = nI (j + 1) from nI_add j 1]
    have f56 : ∀ i, A3.1 56 i = A.1 56 i := fun i => (F3.1 56 i (by omega) (by omega)).trans (F2.1 56 i (by omega) (by omega))
    have FF : FK P56 A0 (zi A3 56 j (kOp false (kOp true S e (L j)).2 (R j) (kOp true S e (L j)).1).1) := FK_tr (P'' := P56) hF (FK_tr (P'' := P56) (FK_x (P := P56) F2) (FK_tr (P'' := P56) (FK_x (P := P56) F3) (FK_zi (P := P56) (Or.inr rfl)) (fun _ _ z => z) (fun _ _ z => z)) (fun _ _ z => z) (fun _ _ z => z)) (fun _ _ z => z) (fun _ _ z => z)
    refine ih (j + 1) _ _ (by omega) (KEc_zi K3 (by omega)) o2.1 FF (fun i q1 q2 => ?_) (fun A' e1 e2 e3 e4 => hQ A' e1 e2 (fun i hi => ?_) (fun i hi => ?_))
    · rw [zi_get, if_neg (by omega), f56]
      exact h1 i (by omega) q2
    · cases i with
      | zero => exact (e4 (j + 0) (Or.inl (by omega))).trans zi_v
      | succ i => exact (congrArg (A'.1 56) (by omega)).trans (e3 i (by omega))
    · rw [e4 i (by omega), zi_get, if_neg (by omega), f56]
theorem kx_64 (hg : ip_gk (lg_tbl, vwCl, Gr)) (hw : w ≤ 32) (hw1 : 1 ≤ w) (hu : u < 800) (hr : r ≤ 1) (hm : m = if r = 1 then 1 else w) (hz : z ≤ 64) (ha : a + w ≤ 9682 * w) (h12 : A0.1 12 u = nI r) (h13 : A0.1 13 u = nI z) (hX : ∀ j, j < w → A0.1 57 (a + j) = X j) (lit : ∀ (k j : Nat) (A : zS), k < z → j < m → FK P56 A0 A → zMi l Gr (zc n w) 168 M_Builder_literalOf (d + 4) [.ref 77, .int (nI u), .int (nI k), .int (nI j)] A (fun v A' => A' = A ∧ v = L k j)) : ∀ (c k : Nat) (R : Nat → Int32) (S A : zS), k + c = z → KEc S A → GK S → FK P56 A0 A → (∀ i, i < w → A.1 56 i = R i) → (∀ i, m ≤ i → R i = -2) → (∀ A', KEc ((eltP w m X L c k R).1 S).2 A' → FK P56 A0 A' → (∀ i, i < w → A'.1 56 i = ((eltP w m X L c k R).1 S).1 i) → zW l Gr (zc n w) 168 M_Builder_readElement (d + 5) 166 [some (.ref 77), none, none, some (.int (nI a)), none, none, none] [] A' Q) → zW l Gr (zc n w) 168 M_Builder_readElement (d + 5) 64 [some (.ref 77), none, some (.int (nI u)), some (.int (nI a)), some (.int (nI k)), none, none] [] A Q
  | 0, k, R, S, A, h, hK, hG, hF, h1, h2, hQ => b_Builder_readElement_64 (vp_in_nI hu (by omega)) (fun _ => hQ A hK hF h1) (fun q => absurd (by rw [nI_clamp (by omega), hF.1 13 u (by omega) (by omega) (by unfold P56; omega), h13]; exact nI_le (by omega) (by omega)) q)
  | c + 1, k, R, S, A, h, hK, hG, hF, h1, h2, hQ => by
    have hmw : m ≤ w := by rw [hm]; split <;> omega
    have f57 : ∀ (A : zS), FK P56 A0 A → ∀ j, j < w → A.1 57 (a + j) = X j := fun A hF j hj => by rw [hF.1 57 _ (by omega) (by omega) (by unfold P56; omega)]; exact hX j hj
    have o1 := k_run (BU_idx (X := X) (v := k) (w := w)) hG
    refine b_Builder_readElement_64 (vp_in_nI hu (by omega)) (fun q => absurd q (by rw [nI_clamp (by omega), hF.1 13 u (by omega) (by omega) (by unfold P56; omega), h13]; exact nI_ge (by omega) (by omega))) (fun _ => b_Builder_readElement_78 hg (w_equalTo hg hw hw1 ha (by omega) hK hG (f57 A hF)) (fun v A1 k1 => b_Builder_readElement_92 ?_))
    obtain ⟨ev, K1, F1⟩ := k1
    subst ev
    have FF : FK P56 A0 A1 := FK_tr (P'' := P56) hF F1 (fun _ _ z => z) (fun c j z => Or.inl z.1)
    have f1 : ∀ i, i < w → A1.1 56 i = R i := fun i hi => by rw [F1.1 56 i (by omega) (by omega) (by omega)]; exact h1 i hi
    refine kx_97 (L := L k) (R := R) hg hw hw1 hu hr hm h12 (fun j A hj hF => lit k j A (by omega) hj hF) m 0 _ A1 (by omega) K1 o1.1 FF (fun i _ hi => f1 i (by omega)) (fun A2 e1 e2 e3 e4 => b_Builder_readElement_160 ?_)
    rw [show nI k + Int32.ofInt 1 = nI (k + 1) from nI_add k 1]
    have hlen : ∀ i, m ≤ i → lf ((rowP ((idxP X k w).1 S).1 (L k) R m 0).1 ((idxP X k w).1 S).2).1 i = -2 := fun i hi => gd_no (by rw [row_len]; exact hi)
    refine kx_64 hg hw hw1 hu hr hm hz ha h12 h13 hX lit c (k + 1) _ _ A2 (by omega) e1 (k_run (BU_row m 0) o1.1).1 e2 (fun i hi => ?_) hlen hQ
    by_cases z : i < m
    · have := e3 i z
      rw [Nat.zero_add] at this
      exact this
    · rw [e4 i (Or.inr (by omega)), f1 i hi, h2 i (by omega)]
      exact (hlen i (by omega)).symm
theorem w_readN (hg : ip_gk (lg_tbl, vwCl, Gr)) (hw : w ≤ 32) (hw1 : 1 ≤ w) (hi : i < 4000) (hu : u < 800) (hr : r ≤ 1) (hm : m = if r = 1 then 1 else w) (hz : z ≤ 64) (h5 : A.1 5 i = nI u) (h7 : A.1 7 i = 0) (h8 : A.1 45 8 = nI (a + w)) (ha : a + w ≤ 9682 * w) (h12 : A.1 12 u = nI r) (h13 : A.1 13 u = nI z) (hK : KEc S A) (hG : GK S) (hX : ∀ j, j < w → A.1 57 (a + j) = X j) (lit : ∀ (k j : Nat) (A' : zS), k < z → j < m → FK P56 A A' → zMi l Gr (zc n w) 168 M_Builder_literalOf (d + 4) [.ref 77, .int (nI u), .int (nI k), .int (nI j)] A' (fun v A'' => A'' = A' ∧ v = L k j)) : zMv l Gr (zc n w) 168 M_Builder_readElement (d + 5) [.ref 77, .int (nI i)] A (fun A' => OPk ((eltP w m X L z 0 (fun _ => -2)).1 S).2 A A' a w m ((eltP w m X L z 0 (fun _ => -2)).1 S).1) := by
  have hmul : 9682 * w ≤ 9682 * 32 := Nat.mul_le_mul_left _ hw
  have hmw : m ≤ w := by rw [hm]; split <;> omega
  have c0 : ((nI i : Int32)).toNatClampNeg = i := nI_clamp (by omega)
  have cw : ((nI w : Int32)).toNatClampNeg = w := nI_clamp (by omega)
  have ca : ((nI a : Int32)).toNatClampNeg = a := nI_clamp (by omega)
  refine e_Builder_readElement (b_Builder_readElement_0 (vp_in_nI hi (by omega)) (fun _ => ?_) (fun y => absurd (by rw [c0]; exact h7) y))
  rw [c0, h5, h8, nI_subb]
  refine b_Builder_readElement_52 hg (m_fill_88 hw (-2)) (fun A1 e1 => b_Builder_readElement_61 ?_)
  subst e1
  have F0 : FK P56 A (zfill A 56 (-2) w) := FK_zI (P := P56) (fun j hj => absurd (Or.inr rfl) hj)
  have z56 : ∀ j, j < w → (zfill A 56 (-2) w).1 56 j = -2 := fun j hj => by
    show (if 56 = 56 then (fun k => if k < w then (-2 : Int32) else A.1 56 k) else A.1 56) j = -2
    rw [if_pos rfl, if_pos hj]
  refine kx_64 (A0 := A) (X := X) (L := L) hg hw hw1 hu hr hm hz ha h12 h13 hX lit z 0 (fun _ => -2) S _ (by omega) (KEc_zI hK (by omega)) hG F0 z56 (fun _ _ => rfl) (fun A2 e1 e2 e3 => ?_)
  obtain ⟨g1, g2, g3⟩ := cp57 (w := w) (a := a) (c0 := 56) e1 e3
  refine b_Builder_readElement_166 (nI_pos (by omega)) (nI_pos (by omega)) (by rw [cw]; exact Nat.le_of_eq (Nat.zero_add w)) (by rw [ca, cw]; exact ha) ?_
  rw [ca, cw, show ((0 : Int32)).toNatClampNeg = 0 from rfl]
  refine ⟨rfl, g1, FK_tr (P'' := PKs a) e2 g2 (fun c j z => ?_) (fun c j z => by rw [z.1]; exact PKs_s z.2.1), ?_, fun j hj => g3 j (by omega)⟩
  · unfold P56 at z
    exact PKs_a (by omega) (by omega)
  · rw [g2.1 45 8 (by omega) (by omega) (by omega), e2.1 45 8 (by omega) (by omega) (by unfold P56; omega)]
    exact h8
theorem w_readP (hg : ip_gk (lg_tbl, vwCl, Gr)) (hw : w ≤ 32) (hw1 : 1 ≤ w) (hi : i < 4000) (hu : u < 800) (hr : r ≤ 1) (hm : m = if r = 1 then 1 else w) (h5 : A.1 5 i = nI u) (h7 : ¬ A.1 7 i = 0) (h8 : A.1 45 8 = nI (a + w)) (ha : a + w ≤ 9682 * w) (h12 : A.1 12 u = nI r) (hX : ∀ j, j < w → A.1 57 (a + j) = X j) (lit : ∀ (j : Nat) (A' : zS), j < m → FK (fun c i => c = 57 ∧ a ≤ i ∧ i < a + w) A A' → zMi l Gr (zc n w) 168 M_Builder_literalOf (d + 3) [.ref 77, .int (nI u), .int (nI (nvb (xbo X) w 0)), .int (nI j)] A' (fun v A'' => A'' = A' ∧ v = F j)) : zMv l Gr (zc n w) 168 M_Builder_readElement (d + 5) [.ref 77, .int (nI i)] A (fun A' => OPk A A A' a w m F) := by
  have c0 : ((nI i : Int32)).toNatClampNeg = i := nI_clamp (by omega)
  refine e_Builder_readElement (b_Builder_readElement_0 (vp_in_nI hi (by omega)) (fun y => absurd (by rw [c0] at y; exact y) h7) (fun _ => ?_))
  rw [c0, h5, h8, nI_subb]
  refine b_Builder_readElement_32 hg (w_numb hw ha hX) (fun v A1 k1 => ?_)
  rw [k1.1, k1.2]
  refine b_Builder_readElement_46 hg (R := fun A' => KEc A A' ∧ FK (fun c i => c = 57 ∧ a ≤ i ∧ i < a + w) A A' ∧ ∀ i, i < m → A'.1 57 (a + i) = F i) (by
    rw [show (Int64.ofNat (nvb (xbo X) w 0)).toInt32 = nI (nvb (xbo X) w 0) from lN_i _]
    exact w_load (F := F) hg hw hw1 hu hr hm ha h12 lit) (fun A' k => b_Builder_readElement_51 ⟨rfl, k.1, FK_mo k.2.1 (fun c j z => by rw [z.1]; exact PKs_s z.2.1), ?_, k.2.2⟩)
  rw [k.2.1.1 45 8 (by omega) (by omega) (by omega)]
  exact h8
theorem w_chk (hg : ip_gk (lg_tbl, vwCl, Gr)) (hw : w ≤ 32) (hj : j < 4000) (hi : i < 4000) (hu : u < 800) (hz : z ≤ 64) (hj5 : A.1 5 j = nI i) (h5 : A.1 5 i = nI u) (h8 : A.1 45 8 = nI (a + w)) (ha : a + w ≤ 9682 * w) (h13 : A.1 13 u = nI z) (hX : ∀ j, j < w → A.1 57 (a + j) = X j) : zMv l Gr (zc n w) 168 M_Builder_buildFactor (d + 7) [.ref 77, .int (nI j), .int 26] A (fun A' => (A.1 7 i = 0 ∨ nvb (xbo X) w 0 < z → A' = A) ∧ (¬ A.1 7 i = 0 → ¬ nvb (xbo X) w 0 < z → A' = kT A 7 (A.1 6 j))) := by
  have c0 : ((nI i : Int32)).toNatClampNeg = i := nI_clamp (by omega)
  have cj : ((nI j : Int32)).toNatClampNeg = j := nI_clamp (by omega)
  have cu : ((nI u : Int32)).toNatClampNeg = u := nI_clamp (by omega)
  have cm : lg_cmp (Int64.ofNat (nvb (xbo X) w 0)) ((nI z : Int32)).toInt64 < 0 ↔ nvb (xbo X) w 0 < z := by
    rw [lg_cmp_lt, show ((nI z : Int32)).toInt64 = Int64.ofNat z from i64_n (by omega)]
    exact i64_lt (by have := nvb_62 (xb := xbo X) hw; omega) (by omega)
  refine e_Builder_buildFactor (kf_0 (z := 26) (by omega) (by omega) (by omega) (by omega) (by omega) (fun _ => b_Builder_buildFactor_175 hg (R := fun A' => (A.1 7 i = 0 ∨ nvb (xbo X) w 0 < z → A' = A) ∧ (¬ A.1 7 i = 0 → ¬ nvb (xbo X) w 0 < z → A' = kT A 7 (A.1 6 j))) (e_Builder_checkIndex (b_Builder_checkIndex_0 (vp_in_nI hj (by omega)) (by rw [cj, hj5]; exact vp_in_nI hi (by omega)) (fun y => b_Builder_checkIndex_82 ⟨rfl, fun _ => rfl, fun y2 => absurd (by rw [cj, hj5, c0] at y; exact y) y2⟩) (fun y => ?_))) (fun A' k => b_Builder_buildFactor_180 (b_Builder_buildFactor_258 ⟨rfl, k⟩))) (by omega) (by omega) (by omega) (by omega) (by omega))
  rw [cj, hj5] at y ⊢
  rw [c0] at y
  refine b_Builder_checkIndex_22 hg (R := fun v A' => v = Int64.ofNat (nvb (xbo X) w 0) ∧ A' = A) (by rw [h8, nI_subb]; exact w_numb hw ha hX) (fun v A1 k1 => ?_)
  rw [k1.1, k1.2]
  refine b_Builder_checkIndex_42 (vp_in_nI hi (by omega)) (by rw [c0, h5]; exact vp_in_nI hu (by omega)) (fun q => b_Builder_checkIndex_82 ⟨rfl, fun _ => rfl, fun _ y2 => absurd ?_ y2⟩) (fun q => b_Builder_checkIndex_64 hg (vp_in_nI hj (by omega)) w_tl (fun A' k => b_Builder_checkIndex_82 ⟨rfl, fun y2 => ?_, fun _ _ => by rw [k, cj]⟩))
  · rw [c0, h5, cu, h13] at q
    exact cm.mp q
  · rw [c0, h5, cu, h13] at q
    exact absurd (y2.resolve_left y) (fun y3 => q (cm.mpr y3))
theorem w_fac27 (hg : ip_gk (lg_tbl, vwCl, Gr)) {Rz : zS → Prop} (hj : j < 4000) (hj5 : A.1 5 j = nI i) (q : zMv l Gr (zc n w) 168 M_Builder_readElement (d + 6) [.ref 77, .int (nI i)] A Rz) : zMv l Gr (zc n w) 168 M_Builder_buildFactor (d + 7) [.ref 77, .int (nI j), .int 27] A Rz := e_Builder_buildFactor (kf_0 (z := 27) (by omega) (by omega) (by omega) (by omega) (by omega) (by omega) (fun _ => b_Builder_buildFactor_183 hg (R := Rz) (vp_in_nI hj (by omega)) (by rw [nI_clamp (by omega), hj5]; exact q) (fun A' k => b_Builder_buildFactor_196 (b_Builder_buildFactor_258 ⟨rfl, k⟩))) (by omega) (by omega) (by omega) (by omega))
end ELT
