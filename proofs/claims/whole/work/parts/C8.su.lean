/-! a sum, bit by bit -/
def sumP (X Y : Nat → Int32) : Nat → Nat → Int32 → CP (List Int32)
  | 0, _, _ => cRet []
  | 1, i, c => cOp false (Y i) c fun t => cOp false (X i) t fun o => cRet [o]
  | k + 2, i, c => cOp false (Y i) c fun t => cOp false (X i) t fun o => cOp false (X i) c fun u => cOp true u t fun v => cOp false c v fun c' => cBind (sumP X Y (k + 1) (i + 1) c') fun os => cRet (o :: os)
section SUM
variable {l : Launch} {Gr : zG} {n w : Nat} {d : Nat} {S A T B : zS} {c : Int32} {X Y : Nat → Int32} {Q : Option Value → zS → Prop} {a b m : Nat}
theorem sumP_2 {k i : Nat} : sumP X Y (k + 2) i c = cOp false (Y i) c fun t => cOp false (X i) t fun o => cOp false (X i) c fun u => cOp true u t fun v => cOp false c v fun c' => cBind (sumP X Y (k + 1) (i + 1) c') fun os => cRet (o :: os) := rfl
theorem BU_sum : ∀ (k i : Nat) (c : Int32), BU (sumP X Y k i c)
  | 0, _, _ => BU_ret
  | 1, _, _ => BU_op (fun _ => BU_op (fun _ => BU_ret))
  | k + 2, i, c => BU_op (fun _ => BU_op (fun _ => BU_op (fun _ => BU_op (fun _ => BU_op (fun c' => BU_bind (BU_sum (k + 1) (i + 1) c') (fun _ => BU_ret))))))
/-- all of a list's literals are there -/
def VLs (T : zS) (os : List Int32) : Prop := ∀ j, VC T (os.getD j (-2))
theorem VLs_nil : VLs T [] := fun _ => VC_c2
theorem VLs_cons {o : Int32} {os : List Int32} (h : VC T o) (hs : VLs T os) : VLs T (o :: os)
  | 0 => h
  | j + 1 => hs j
theorem VLs_m {T' : zS} {os : List Int32} (h : MOK T T') (hs : VLs T os) : VLs T' os := fun j => VC_m h (hs j)
theorem W_sum : ∀ (k i : Nat) (c : Int32) (T : zS), (∀ j, VC T (X j)) → (∀ j, VC T (Y j)) → VC T c → mWF VLs (sumP X Y k i c) T
  | 0, _, _, _, _, _, _ => mWF_ret VLs_nil
  | 1, i, c, T, hX, hY, hc => mWF_op (fun _ => BU_op (fun _ => BU_ret)) (hY i) hc (fun T1 t m1 ht => mWF_op (fun _ => BU_ret) (VC_m m1 (hX i)) ht (fun T2 o m2 ho => mWF_ret (VLs_cons ho VLs_nil)))
  | k + 2, i, c, T, hX, hY, hc => mWF_op (fun _ => BU_op (fun _ => BU_op (fun _ => BU_op (fun _ => BU_op (fun c' => BU_bind (BU_sum (k + 1) (i + 1) c') (fun _ => BU_ret)))))) (hY i) hc (fun T1 t m1 ht =>
      mWF_op (fun _ => BU_op (fun _ => BU_op (fun _ => BU_op (fun c' => BU_bind (BU_sum (k + 1) (i + 1) c') (fun _ => BU_ret))))) (VC_m m1 (hX i)) ht (fun T2 o m2 ho =>
      mWF_op (fun _ => BU_op (fun _ => BU_op (fun c' => BU_bind (BU_sum (k + 1) (i + 1) c') (fun _ => BU_ret)))) (VC_m m2 (VC_m m1 (hX i))) (VC_m m2 (VC_m m1 hc)) (fun T3 u m3 hu =>
      mWF_op (fun _ => BU_op (fun c' => BU_bind (BU_sum (k + 1) (i + 1) c') (fun _ => BU_ret))) hu (VC_m m3 (VC_m m2 ht)) (fun T4 v m4 hv =>
      mWF_op (fun c' => BU_bind (BU_sum (k + 1) (i + 1) c') (fun _ => BU_ret)) (VC_m m4 (VC_m m3 (VC_m m2 (VC_m m1 hc)))) hv (fun T5 c' m5 hc' => by
        have mm := MOK_tr m1 (MOK_tr m2 (MOK_tr m3 (MOK_tr m4 m5)))
        have ho' := VC_m m5 (VC_m m4 (VC_m m3 ho))
        exact mWF_seq (fun _ => BU_ret) (W_sum (k + 1) (i + 1) c' T5 (fun j => VC_m mm (hX j)) (fun j => VC_m mm (hY j)) hc') (fun T6 os m6 h6 => mWF_ret (VLs_cons (m6 _ ho') h6)))))))
theorem ks_r89_r89 (hg : ip_gk (lg_tbl, vwCl, Gr)) (hw : w ≤ 32) (ha : a + m ≤ 9682 * w) (hb : b + m ≤ 9682 * w) (hd : a + m ≤ b ∨ b + m ≤ a) : ∀ (k i : Nat) (c : Int32) (S A : zS), i + k = m → KEc S A → GK S → (∀ j, i ≤ j → j < m → A.1 57 (a + j) = X j) → (∀ j, i ≤ j → j < m → A.1 57 (b + j) = Y j) → (∀ A', KEc ((sumP X Y k i c).1 S).2 A' → FK (fun c' j => c' = 57 ∧ a + i ≤ j ∧ j < a + m) A A' → (∀ j, j < k → A'.1 57 (a + i + j) = ((sumP X Y k i c).1 S).1.getD j (-2)) → Q none A') → zW l Gr (zc n w) 168 M_Logic_sum (d + 3) 7 [some (.ref 82), some (.ref 89), some (.int (nI a)), some (.ref 89), some (.int (nI b)), some (.int (nI m)), none, some (.int c), some (.int (nI i)), none, none, none] [] A Q
  | 0, i, c, S, A, h, hK, hG, hX, hY, hQ => b_Logic_sum_r89_r89_7 (fun _ => b_Logic_sum_r89_r89_107 (hQ A hK FK_rfl (fun j hj => absurd hj (by omega)))) (fun q => absurd (nI_le (a := m) (b := i) (by omega) (by omega)) q)
  | 1, i, c, S, A, h, hK, hG, hX, hY, hQ => by
    have eY : A.1 57 ((nI b + nI i).toNatClampNeg) = Y i := by rw [nI_add, nI_clamp (by omega)]; exact hY i (by omega) (by omega)
    have eX : A.1 57 ((nI a + nI i).toNatClampNeg) = X i := by rw [nI_add, nI_clamp (by omega)]; exact hX i (by omega) (by omega)
    have inA : vp_in (nI a + nI i) (9682 * w) := by rw [nI_add]; exact vp_in_nI (by omega) (by omega)
    have inB : vp_in (nI b + nI i) (9682 * w) := by rw [nI_add]; exact vp_in_nI (by omega) (by omega)
    refine b_Logic_sum_r89_r89_7 (fun q => absurd q (nI_ge (a := i) (b := m) (by omega) (by omega))) (fun _ => b_Logic_sum_r89_r89_14 hg inA inB (w_xorK hg hK hG) (fun t A1 h1 => ?_))
    rw [eX]
    rw [eY] at h1
    obtain ⟨et, K1, F1⟩ := h1
    subst et
    have G1 : GK (kOp false S (Y i) c).2 := (k_op hG).1
    refine b_Logic_sum_r89_r89_38 hg (w_xorK hg K1 G1) (fun o A2 h2 => b_Logic_sum_r89_r89_56 inA (fun _ => b_Logic_sum_r89_r89_101 ?_) (fun q => absurd (by rw [show m = i + 1 by omega, nI_pred]; exact Int32.le_refl _) q))
    obtain ⟨eo, K2, F2⟩ := h2
    subst eo
    have G2 := (k_op (b := false) (x := X i) (y := (kOp false S (Y i) c).1) G1).1
    rw [nI_add, nI_clamp (by omega), show nI i + Int32.ofInt 1 = nI (i + 1) from nI_add i 1]
    refine ks_r89_r89 hg hw ha hb hd 0 (i + 1) c _ _ (by omega) (KEc_zi K2 (by omega)) G2 (fun j q1 q2 => absurd q1 (by omega)) (fun j q1 q2 => absurd q1 (by omega)) (fun A' e1 e2 e3 => hQ A' e1 ?_ (fun j hj => ?_))
    · exact FK_tr (FK_x (P := fun _ _ => False) (KX_tr F1 F2)) (FK_tr (FK_zi (P := fun c' j => c' = 57 ∧ j = a + i) ⟨rfl, rfl⟩) e2 (P'' := fun c' j => c' = 57 ∧ a + i ≤ j ∧ j < a + m) (by omega) (by omega)) (fun _ _ q => q.elim) (by omega)
    · rw [show j = 0 by omega, e2.1 57 (a + i + 0) (by omega) (by omega) (by omega)]
      exact zi_v
  | k + 2, i, c, S, A, h, hK, hG, hX, hY, hQ => by
    have eY : A.1 57 ((nI b + nI i).toNatClampNeg) = Y i := by rw [nI_add, nI_clamp (by omega)]; exact hY i (by omega) (by omega)
    have eX : A.1 57 ((nI a + nI i).toNatClampNeg) = X i := by rw [nI_add, nI_clamp (by omega)]; exact hX i (by omega) (by omega)
    have inA : vp_in (nI a + nI i) (9682 * w) := by rw [nI_add]; exact vp_in_nI (by omega) (by omega)
    have inB : vp_in (nI b + nI i) (9682 * w) := by rw [nI_add]; exact vp_in_nI (by omega) (by omega)
    refine b_Logic_sum_r89_r89_7 (fun q => absurd q (nI_ge (a := i) (b := m) (by omega) (by omega))) (fun _ => b_Logic_sum_r89_r89_14 hg inA inB (w_xorK hg hK hG) (fun t A1 h1 => ?_))
    rw [eX]
    rw [eY] at h1
    obtain ⟨et, K1, F1⟩ := h1
    subst et
    have G1 : GK (kOp false S (Y i) c).2 := (k_op hG).1
    refine b_Logic_sum_r89_r89_38 hg (w_xorK hg K1 G1) (fun o A2 h2 => b_Logic_sum_r89_r89_56 inA (fun q => absurd q (by rw [show m = (i + k + 1) + 1 by omega, nI_pred]; exact nI_ge (by omega) (by omega))) (fun _ => ?_))
    obtain ⟨eo, K2, F2⟩ := h2
    subst eo
    have G2 := (k_op (b := false) (x := X i) (y := (kOp false S (Y i) c).1) G1).1
    rw [nI_add, nI_clamp (by omega)]
    refine b_Logic_sum_r89_r89_66 hg (w_xorK hg (KEc_zi K2 (by omega)) G2) (fun u A4 h4 => ?_)
    obtain ⟨eu, K4, F4⟩ := h4
    subst eu
    refine b_Logic_sum_r89_r89_77 hg (w_andK hg K4 (k_op G2).1) (fun v A5 h5 => ?_)
    obtain ⟨ev, K5, F5⟩ := h5
    subst ev
    refine b_Logic_sum_r89_r89_96 hg (w_xorK hg K5 (k_op (k_op G2).1).1) (fun c2 A6 h6 => ?_)
    obtain ⟨ec, K6, F6⟩ := h6
    subst ec
    refine b_Logic_sum_r89_r89_99 (b_Logic_sum_r89_r89_101 ?_)
    rw [show nI i + Int32.ofInt 1 = nI (i + 1) from nI_add i 1]
    have f : FK (fun c' j => c' = 57 ∧ j = a + i) A A6 := FK_tr (FK_x (P := fun _ _ => False) (KX_tr F1 F2)) (FK_tr (FK_zi (P := fun c' j => c' = 57 ∧ j = a + i) ⟨rfl, rfl⟩) (FK_x (P := fun _ _ => False) (KX_tr F4 (KX_tr F5 F6))) (P'' := fun c' j => c' = 57 ∧ j = a + i) (fun _ _ q => q) (fun _ _ q => q.elim)) (fun _ _ q => q.elim) (fun _ _ q => q)
    have ev : A6.1 57 (a + i) = (kOp false (kOp false S (Y i) c).2 (X i) (kOp false S (Y i) c).1).1 := by
      rw [(KX_tr F4 (KX_tr F5 F6)).1 57 (a + i) (by omega) (by omega)]
      exact zi_v
    refine ks_r89_r89 hg hw ha hb hd (k + 1) (i + 1) _ _ _ (by omega) K6 (k_op (k_op (k_op G2).1).1).1 (fun j q1 q2 => (f.1 57 (a + j) (by omega) (by omega) (by omega)).trans (hX j (by omega) q2)) (fun j q1 q2 => (f.1 57 (b + j) (by omega) (by omega) (by omega)).trans (hY j (by omega) q2)) (fun A' e1 e2 e3 => hQ A' e1 ?_ (fun j hj => ?_))
    · exact FK_tr f e2 (by omega) (by omega)
    · cases j with
      | zero => exact (e2.1 57 (a + i + 0) (by omega) (by omega) (by omega)).trans ev
      | succ j => exact (congrArg (A'.1 57) (by omega)).trans (e3 j (by omega))
theorem w_sum_r89_r89 (hg : ip_gk (lg_tbl, vwCl, Gr)) (hw : w ≤ 32) (ha : a + m ≤ 9682 * w) (hb : b + m ≤ 9682 * w) (hd : a + m ≤ b ∨ b + m ≤ a) (hK : KEc S A) (hG : GK S) (hX : ∀ j, j < m → A.1 57 (a + j) = X j) (hY : ∀ j, j < m → A.1 57 (b + j) = Y j) : zMv l Gr (zc n w) 168 M_Logic_sum (d + 3) [.ref 82, .ref 89, .int (nI a), .ref 89, .int (nI b), .int (nI m), .int c] A (fun A' => KEc ((sumP X Y m 0 c).1 S).2 A' ∧ FK (fun c' j => c' = 57 ∧ a ≤ j ∧ j < a + m) A A' ∧ ∀ j, j < m → A'.1 57 (a + j) = ((sumP X Y m 0 c).1 S).1.getD j (-2)) :=
  e_Logic_sum_r89_r89 (b_Logic_sum_r89_r89_0 (ks_r89_r89 hg hw ha hb hd m 0 c S A (by omega) hK hG (fun j _ q => hX j q) (fun j _ q => hY j q) (fun A' e1 e2 e3 => ⟨rfl, e1, e2, e3⟩)))
theorem ks_r83_r84 (hg : ip_gk (lg_tbl, vwCl, Gr)) (hw : w ≤ 32) (ha : a + m ≤ w) (hb : b + m ≤ w) : ∀ (k i : Nat) (c : Int32) (S A : zS), i + k = m → KEc S A → GK S → (∀ j, i ≤ j → j < m → A.1 51 (a + j) = X j) → (∀ j, i ≤ j → j < m → A.1 52 (b + j) = Y j) → (∀ A', KEc ((sumP X Y k i c).1 S).2 A' → FK (fun c' j => c' = 51 ∧ a + i ≤ j ∧ j < a + m) A A' → (∀ j, j < k → A'.1 51 (a + i + j) = ((sumP X Y k i c).1 S).1.getD j (-2)) → Q none A') → zW l Gr (zc n w) 168 M_Logic_sum (d + 3) 7 [some (.ref 82), some (.ref 83), some (.int (nI a)), some (.ref 84), some (.int (nI b)), some (.int (nI m)), none, some (.int c), some (.int (nI i)), none, none, none] [] A Q
  | 0, i, c, S, A, h, hK, hG, hX, hY, hQ => b_Logic_sum_r83_r84_7 (fun _ => b_Logic_sum_r83_r84_107 (hQ A hK FK_rfl (fun j hj => absurd hj (by omega)))) (fun q => absurd (nI_le (a := m) (b := i) (by omega) (by omega)) q)
  | 1, i, c, S, A, h, hK, hG, hX, hY, hQ => by
    have eY : A.1 52 ((nI b + nI i).toNatClampNeg) = Y i := by rw [nI_add, nI_clamp (by omega)]; exact hY i (by omega) (by omega)
    have eX : A.1 51 ((nI a + nI i).toNatClampNeg) = X i := by rw [nI_add, nI_clamp (by omega)]; exact hX i (by omega) (by omega)
    have inA : vp_in (nI a + nI i) (w) := by rw [nI_add]; exact vp_in_nI (by omega) (by omega)
    have inB : vp_in (nI b + nI i) (w) := by rw [nI_add]; exact vp_in_nI (by omega) (by omega)
    refine b_Logic_sum_r83_r84_7 (fun q => absurd q (nI_ge (a := i) (b := m) (by omega) (by omega))) (fun _ => b_Logic_sum_r83_r84_14 hg inA inB (w_xorK hg hK hG) (fun t A1 h1 => ?_))
    rw [eX]
    rw [eY] at h1
    obtain ⟨et, K1, F1⟩ := h1
    subst et
    have G1 : GK (kOp false S (Y i) c).2 := (k_op hG).1
    refine b_Logic_sum_r83_r84_38 hg (w_xorK hg K1 G1) (fun o A2 h2 => b_Logic_sum_r83_r84_56 inA (fun _ => b_Logic_sum_r83_r84_101 ?_) (fun q => absurd (by rw [show m = i + 1 by omega, nI_pred]; exact Int32.le_refl _) q))
    obtain ⟨eo, K2, F2⟩ := h2
    subst eo
    have G2 := (k_op (b := false) (x := X i) (y := (kOp false S (Y i) c).1) G1).1
    rw [nI_add, nI_clamp (by omega), show nI i + Int32.ofInt 1 = nI (i + 1) from nI_add i 1]
    refine ks_r83_r84 hg hw ha hb 0 (i + 1) c _ _ (by omega) (KEc_zi K2 (by omega)) G2 (fun j q1 q2 => absurd q1 (by omega)) (fun j q1 q2 => absurd q1 (by omega)) (fun A' e1 e2 e3 => hQ A' e1 ?_ (fun j hj => ?_))
    · exact FK_tr (FK_x (P := fun _ _ => False) (KX_tr F1 F2)) (FK_tr (FK_zi (P := fun c' j => c' = 51 ∧ j = a + i) ⟨rfl, rfl⟩) e2 (P'' := fun c' j => c' = 51 ∧ a + i ≤ j ∧ j < a + m) (by omega) (by omega)) (fun _ _ q => q.elim) (by omega)
    · rw [show j = 0 by omega, e2.1 51 (a + i + 0) (by omega) (by omega) (by omega)]
      exact zi_v
  | k + 2, i, c, S, A, h, hK, hG, hX, hY, hQ => by
    have eY : A.1 52 ((nI b + nI i).toNatClampNeg) = Y i := by rw [nI_add, nI_clamp (by omega)]; exact hY i (by omega) (by omega)
    have eX : A.1 51 ((nI a + nI i).toNatClampNeg) = X i := by rw [nI_add, nI_clamp (by omega)]; exact hX i (by omega) (by omega)
    have inA : vp_in (nI a + nI i) (w) := by rw [nI_add]; exact vp_in_nI (by omega) (by omega)
    have inB : vp_in (nI b + nI i) (w) := by rw [nI_add]; exact vp_in_nI (by omega) (by omega)
    refine b_Logic_sum_r83_r84_7 (fun q => absurd q (nI_ge (a := i) (b := m) (by omega) (by omega))) (fun _ => b_Logic_sum_r83_r84_14 hg inA inB (w_xorK hg hK hG) (fun t A1 h1 => ?_))
    rw [eX]
    rw [eY] at h1
    obtain ⟨et, K1, F1⟩ := h1
    subst et
    have G1 : GK (kOp false S (Y i) c).2 := (k_op hG).1
    refine b_Logic_sum_r83_r84_38 hg (w_xorK hg K1 G1) (fun o A2 h2 => b_Logic_sum_r83_r84_56 inA (fun q => absurd q (by rw [show m = (i + k + 1) + 1 by omega, nI_pred]; exact nI_ge (by omega) (by omega))) (fun _ => ?_))
    obtain ⟨eo, K2, F2⟩ := h2
    subst eo
    have G2 := (k_op (b := false) (x := X i) (y := (kOp false S (Y i) c).1) G1).1
    rw [nI_add, nI_clamp (by omega)]
    refine b_Logic_sum_r83_r84_66 hg (w_xorK hg (KEc_zi K2 (by omega)) G2) (fun u A4 h4 => ?_)
    obtain ⟨eu, K4, F4⟩ := h4
    subst eu
    refine b_Logic_sum_r83_r84_77 hg (w_andK hg K4 (k_op G2).1) (fun v A5 h5 => ?_)
    obtain ⟨ev, K5, F5⟩ := h5
    subst ev
    refine b_Logic_sum_r83_r84_96 hg (w_xorK hg K5 (k_op (k_op G2).1).1) (fun c2 A6 h6 => ?_)
    obtain ⟨ec, K6, F6⟩ := h6
    subst ec
    refine b_Logic_sum_r83_r84_99 (b_Logic_sum_r83_r84_101 ?_)
    rw [show nI i + Int32.ofInt 1 = nI (i + 1) from nI_add i 1]
    have f : FK (fun c' j => c' = 51 ∧ j = a + i) A A6 := FK_tr (FK_x (P := fun _ _ => False) (KX_tr F1 F2)) (FK_tr (FK_zi (P := fun c' j => c' = 51 ∧ j = a + i) ⟨rfl, rfl⟩) (FK_x (P := fun _ _ => False) (KX_tr F4 (KX_tr F5 F6))) (P'' := fun c' j => c' = 51 ∧ j = a + i) (fun _ _ q => q) (fun _ _ q => q.elim)) (fun _ _ q => q.elim) (fun _ _ q => q)
    have ev : A6.1 51 (a + i) = (kOp false (kOp false S (Y i) c).2 (X i) (kOp false S (Y i) c).1).1 := by
      rw [(KX_tr F4 (KX_tr F5 F6)).1 51 (a + i) (by omega) (by omega)]
      exact zi_v
    refine ks_r83_r84 hg hw ha hb (k + 1) (i + 1) _ _ _ (by omega) K6 (k_op (k_op (k_op G2).1).1).1 (fun j q1 q2 => (f.1 51 (a + j) (by omega) (by omega) (by omega)).trans (hX j (by omega) q2)) (fun j q1 q2 => (f.1 52 (b + j) (by omega) (by omega) (by omega)).trans (hY j (by omega) q2)) (fun A' e1 e2 e3 => hQ A' e1 ?_ (fun j hj => ?_))
    · exact FK_tr f e2 (by omega) (by omega)
    · cases j with
      | zero => exact (e2.1 51 (a + i + 0) (by omega) (by omega) (by omega)).trans ev
      | succ j => exact (congrArg (A'.1 51) (by omega)).trans (e3 j (by omega))
theorem w_sum_r83_r84 (hg : ip_gk (lg_tbl, vwCl, Gr)) (hw : w ≤ 32) (ha : a + m ≤ w) (hb : b + m ≤ w) (hK : KEc S A) (hG : GK S) (hX : ∀ j, j < m → A.1 51 (a + j) = X j) (hY : ∀ j, j < m → A.1 52 (b + j) = Y j) : zMv l Gr (zc n w) 168 M_Logic_sum (d + 3) [.ref 82, .ref 83, .int (nI a), .ref 84, .int (nI b), .int (nI m), .int c] A (fun A' => KEc ((sumP X Y m 0 c).1 S).2 A' ∧ FK (fun c' j => c' = 51 ∧ a ≤ j ∧ j < a + m) A A' ∧ ∀ j, j < m → A'.1 51 (a + j) = ((sumP X Y m 0 c).1 S).1.getD j (-2)) :=
  e_Logic_sum_r83_r84 (b_Logic_sum_r83_r84_0 (ks_r83_r84 hg hw ha hb m 0 c S A (by omega) hK hG (fun j _ q => hX j q) (fun j _ q => hY j q) (fun A' e1 e2 e3 => ⟨rfl, e1, e2, e3⟩)))
theorem ks_r83_r89 (hg : ip_gk (lg_tbl, vwCl, Gr)) (hw : w ≤ 32) (ha : a + m ≤ w) (hb : b + m ≤ 9682 * w) : ∀ (k i : Nat) (c : Int32) (S A : zS), i + k = m → KEc S A → GK S → (∀ j, i ≤ j → j < m → A.1 51 (a + j) = X j) → (∀ j, i ≤ j → j < m → A.1 57 (b + j) = Y j) → (∀ A', KEc ((sumP X Y k i c).1 S).2 A' → FK (fun c' j => c' = 51 ∧ a + i ≤ j ∧ j < a + m) A A' → (∀ j, j < k → A'.1 51 (a + i + j) = ((sumP X Y k i c).1 S).1.getD j (-2)) → Q none A') → zW l Gr (zc n w) 168 M_Logic_sum (d + 3) 7 [some (.ref 82), some (.ref 83), some (.int (nI a)), some (.ref 89), some (.int (nI b)), some (.int (nI m)), none, some (.int c), some (.int (nI i)), none, none, none] [] A Q
  | 0, i, c, S, A, h, hK, hG, hX, hY, hQ => b_Logic_sum_r83_r89_7 (fun _ => b_Logic_sum_r83_r89_107 (hQ A hK FK_rfl (fun j hj => absurd hj (by omega)))) (fun q => absurd (nI_le (a := m) (b := i) (by omega) (by omega)) q)
  | 1, i, c, S, A, h, hK, hG, hX, hY, hQ => by
    have eY : A.1 57 ((nI b + nI i).toNatClampNeg) = Y i := by rw [nI_add, nI_clamp (by omega)]; exact hY i (by omega) (by omega)
    have eX : A.1 51 ((nI a + nI i).toNatClampNeg) = X i := by rw [nI_add, nI_clamp (by omega)]; exact hX i (by omega) (by omega)
    have inA : vp_in (nI a + nI i) (w) := by rw [nI_add]; exact vp_in_nI (by omega) (by omega)
    have inB : vp_in (nI b + nI i) (9682 * w) := by rw [nI_add]; exact vp_in_nI (by omega) (by omega)
    refine b_Logic_sum_r83_r89_7 (fun q => absurd q (nI_ge (a := i) (b := m) (by omega) (by omega))) (fun _ => b_Logic_sum_r83_r89_14 hg inA inB (w_xorK hg hK hG) (fun t A1 h1 => ?_))
    rw [eX]
    rw [eY] at h1
    obtain ⟨et, K1, F1⟩ := h1
    subst et
    have G1 : GK (kOp false S (Y i) c).2 := (k_op hG).1
    refine b_Logic_sum_r83_r89_38 hg (w_xorK hg K1 G1) (fun o A2 h2 => b_Logic_sum_r83_r89_56 inA (fun _ => b_Logic_sum_r83_r89_101 ?_) (fun q => absurd (by rw [show m = i + 1 by omega, nI_pred]; exact Int32.le_refl _) q))
    obtain ⟨eo, K2, F2⟩ := h2
    subst eo
    have G2 := (k_op (b := false) (x := X i) (y := (kOp false S (Y i) c).1) G1).1
    rw [nI_add, nI_clamp (by omega), show nI i + Int32.ofInt 1 = nI (i + 1) from nI_add i 1]
    refine ks_r83_r89 hg hw ha hb 0 (i + 1) c _ _ (by omega) (KEc_zi K2 (by omega)) G2 (fun j q1 q2 => absurd q1 (by omega)) (fun j q1 q2 => absurd q1 (by omega)) (fun A' e1 e2 e3 => hQ A' e1 ?_ (fun j hj => ?_))
    · exact FK_tr (FK_x (P := fun _ _ => False) (KX_tr F1 F2)) (FK_tr (FK_zi (P := fun c' j => c' = 51 ∧ j = a + i) ⟨rfl, rfl⟩) e2 (P'' := fun c' j => c' = 51 ∧ a + i ≤ j ∧ j < a + m) (by omega) (by omega)) (fun _ _ q => q.elim) (by omega)
    · rw [show j = 0 by omega, e2.1 51 (a + i + 0) (by omega) (by omega) (by omega)]
      exact zi_v
  | k + 2, i, c, S, A, h, hK, hG, hX, hY, hQ => by
    have eY : A.1 57 ((nI b + nI i).toNatClampNeg) = Y i := by rw [nI_add, nI_clamp (by omega)]; exact hY i (by omega) (by omega)
    have eX : A.1 51 ((nI a + nI i).toNatClampNeg) = X i := by rw [nI_add, nI_clamp (by omega)]; exact hX i (by omega) (by omega)
    have inA : vp_in (nI a + nI i) (w) := by rw [nI_add]; exact vp_in_nI (by omega) (by omega)
    have inB : vp_in (nI b + nI i) (9682 * w) := by rw [nI_add]; exact vp_in_nI (by omega) (by omega)
    refine b_Logic_sum_r83_r89_7 (fun q => absurd q (nI_ge (a := i) (b := m) (by omega) (by omega))) (fun _ => b_Logic_sum_r83_r89_14 hg inA inB (w_xorK hg hK hG) (fun t A1 h1 => ?_))
    rw [eX]
    rw [eY] at h1
    obtain ⟨et, K1, F1⟩ := h1
    subst et
    have G1 : GK (kOp false S (Y i) c).2 := (k_op hG).1
    refine b_Logic_sum_r83_r89_38 hg (w_xorK hg K1 G1) (fun o A2 h2 => b_Logic_sum_r83_r89_56 inA (fun q => absurd q (by rw [show m = (i + k + 1) + 1 by omega, nI_pred]; exact nI_ge (by omega) (by omega))) (fun _ => ?_))
    obtain ⟨eo, K2, F2⟩ := h2
    subst eo
    have G2 := (k_op (b := false) (x := X i) (y := (kOp false S (Y i) c).1) G1).1
    rw [nI_add, nI_clamp (by omega)]
    refine b_Logic_sum_r83_r89_66 hg (w_xorK hg (KEc_zi K2 (by omega)) G2) (fun u A4 h4 => ?_)
    obtain ⟨eu, K4, F4⟩ := h4
    subst eu
    refine b_Logic_sum_r83_r89_77 hg (w_andK hg K4 (k_op G2).1) (fun v A5 h5 => ?_)
    obtain ⟨ev, K5, F5⟩ := h5
    subst ev
    refine b_Logic_sum_r83_r89_96 hg (w_xorK hg K5 (k_op (k_op G2).1).1) (fun c2 A6 h6 => ?_)
    obtain ⟨ec, K6, F6⟩ := h6
    subst ec
    refine b_Logic_sum_r83_r89_99 (b_Logic_sum_r83_r89_101 ?_)
    rw [show nI i + Int32.ofInt 1 = nI (i + 1) from nI_add i 1]
    have f : FK (fun c' j => c' = 51 ∧ j = a + i) A A6 := FK_tr (FK_x (P := fun _ _ => False) (KX_tr F1 F2)) (FK_tr (FK_zi (P := fun c' j => c' = 51 ∧ j = a + i) ⟨rfl, rfl⟩) (FK_x (P := fun _ _ => False) (KX_tr F4 (KX_tr F5 F6))) (P'' := fun c' j => c' = 51 ∧ j = a + i) (fun _ _ q => q) (fun _ _ q => q.elim)) (fun _ _ q => q.elim) (fun _ _ q => q)
    have ev : A6.1 51 (a + i) = (kOp false (kOp false S (Y i) c).2 (X i) (kOp false S (Y i) c).1).1 := by
      rw [(KX_tr F4 (KX_tr F5 F6)).1 51 (a + i) (by omega) (by omega)]
      exact zi_v
    refine ks_r83_r89 hg hw ha hb (k + 1) (i + 1) _ _ _ (by omega) K6 (k_op (k_op (k_op G2).1).1).1 (fun j q1 q2 => (f.1 51 (a + j) (by omega) (by omega) (by omega)).trans (hX j (by omega) q2)) (fun j q1 q2 => (f.1 57 (b + j) (by omega) (by omega) (by omega)).trans (hY j (by omega) q2)) (fun A' e1 e2 e3 => hQ A' e1 ?_ (fun j hj => ?_))
    · exact FK_tr f e2 (by omega) (by omega)
    · cases j with
      | zero => exact (e2.1 51 (a + i + 0) (by omega) (by omega) (by omega)).trans ev
      | succ j => exact (congrArg (A'.1 51) (by omega)).trans (e3 j (by omega))
theorem w_sum_r83_r89 (hg : ip_gk (lg_tbl, vwCl, Gr)) (hw : w ≤ 32) (ha : a + m ≤ w) (hb : b + m ≤ 9682 * w) (hK : KEc S A) (hG : GK S) (hX : ∀ j, j < m → A.1 51 (a + j) = X j) (hY : ∀ j, j < m → A.1 57 (b + j) = Y j) : zMv l Gr (zc n w) 168 M_Logic_sum (d + 3) [.ref 82, .ref 83, .int (nI a), .ref 89, .int (nI b), .int (nI m), .int c] A (fun A' => KEc ((sumP X Y m 0 c).1 S).2 A' ∧ FK (fun c' j => c' = 51 ∧ a ≤ j ∧ j < a + m) A A' ∧ ∀ j, j < m → A'.1 51 (a + j) = ((sumP X Y m 0 c).1 S).1.getD j (-2)) :=
  e_Logic_sum_r83_r89 (b_Logic_sum_r83_r89_0 (ks_r83_r89 hg hw ha hb m 0 c S A (by omega) hK hG (fun j _ q => hX j q) (fun j _ q => hY j q) (fun A' e1 e2 e3 => ⟨rfl, e1, e2, e3⟩)))
end SUM
