/-! times, on both sides (without the class's shortcut) -/
def andsP (X : Nat → Int32) (y : Int32) : Nat → Nat → CP (List Int32)
  | 0, _ => cRet []
  | k + 1, i => cOp true (X i) y fun v => cBind (andsP X y k (i + 1)) fun os => cRet (v :: os)
def timP (X Y : Nat → Int32) (w : Nat) : Nat → Nat → (Nat → Int32) → CP (Nat → Int32)
  | 0, _, R => cRet R
  | k + 1, i, R => cBind (andsP X (Y i) (w - i) 0) fun P => cBind (sumP (fun j => R (i + j)) (fun j => P.getD j (-2)) (w - i) 0 (-2)) fun os => timP X Y w k (i + 1) (fun j => if j < i then R j else os.getD (j - i) (-2))
def timesP (X Y : Nat → Int32) (w : Nat) : CP (Nat → Int32) := cBind (andsP X (Y 0) w 0) fun R => timP X Y w (w - 1) 1 (fun j => R.getD j (-2))
def VFs (T : zS) (f : Nat → Int32) : Prop := ∀ j, VC T (f j)
section TIM
variable {l : Launch} {Gr : zG} {n w : Nat} {d : Nat} {S A T B : zS} {c x y : Int32} {X Y E : Nat → Int32} {Q : Option Value → zS → Prop} {a b m i : Nat}
theorem BU_ands : ∀ (r i : Nat), BU (andsP X y r i)
  | 0, _ => BU_ret
  | r + 1, i => BU_op (fun _ => BU_bind (BU_ands r (i + 1)) (fun _ => BU_ret))
theorem W_ands : ∀ (r i : Nat) (T : zS), (∀ j, VC T (X j)) → VC T y → mWF VLs (andsP X y r i) T
  | 0, _, _, _, _ => mWF_ret VLs_nil
  | r + 1, i, T, hX, hy => mWF_op (fun _ => BU_bind (BU_ands r (i + 1)) (fun _ => BU_ret)) (hX i) hy (fun T1 v m1 hv => mWF_seq (fun _ => BU_ret) (W_ands r (i + 1) T1 (fun j => VC_m m1 (hX j)) (VC_m m1 hy)) (fun T2 os m2 h2 => mWF_ret (VLs_cons (m2 _ hv) h2)))
theorem BU_tim : ∀ (k i : Nat) (R : Nat → Int32), BU (timP X Y w k i R)
  | 0, _, _ => BU_ret
  | k + 1, i, R => BU_bind (BU_ands _ _) (fun _ => BU_bind (BU_sum _ _ _) (fun _ => BU_tim k (i + 1) _))
theorem W_tim : ∀ (k i : Nat) (R : Nat → Int32) (T : zS), (∀ j, VC T (X j)) → (∀ j, VC T (Y j)) → (∀ j, VC T (R j)) → mWF VFs (timP X Y w k i R) T
  | 0, _, _, _, _, _, hR => mWF_ret hR
  | k + 1, i, R, T, hX, hY, hR => mWF_seq (fun _ => BU_bind (BU_sum _ _ _) (fun _ => BU_tim k (i + 1) _)) (W_ands _ _ T hX (hY i)) (fun T1 P m1 h1 => mWF_seq (fun _ => BU_tim k (i + 1) _) (W_sum _ _ _ T1 (fun j => m1 _ (hR (i + j))) h1 VC_c2) (fun T2 os m2 h2 => W_tim k (i + 1) _ T2 (fun j => m2 _ (m1 _ (hX j))) (fun j => m2 _ (m1 _ (hY j))) (fun j => by
      by_cases z : j < i
      · simp only [if_pos z]
        exact m2 _ (m1 _ (hR j))
      · simp only [if_neg z]
        exact h2 (j - i))))
theorem BU_times : BU (timesP X Y w) := BU_bind (BU_ands _ _) (fun _ => BU_tim _ _ _)
theorem W_times (hX : ∀ j, VC T (X j)) (hY : ∀ j, VC T (Y j)) : mWF VFs (timesP X Y w) T := mWF_seq (fun _ => BU_tim _ _ _) (W_ands _ _ T hX (hY 0)) (fun T1 _ m1 h1 => W_tim _ _ _ T1 (fun j => m1 _ (hX j)) (fun j => m1 _ (hY j)) h1)
theorem kt_51 (hg : ip_gk (lg_tbl, vwCl, Gr)) (hw : w ≤ 32) (ha : a + w ≤ 9682 * w) (hb : b + w ≤ 9682 * w) : ∀ (k i : Nat) (S A : zS), i + k = w → KEc S A → GK S → (∀ j, j < w → A.1 57 (a + j) = X j) → (∀ j, j < w → A.1 57 (b + j) = Y j) → (∀ A', KEc ((andsP X (Y 0) k i).1 S).2 A' → FK (fun c j => c = 51 ∧ i ≤ j ∧ j < w) A A' → (∀ j, j < k → A'.1 51 (i + j) = ((andsP X (Y 0) k i).1 S).1.getD j (-2)) → zW l Gr (zc n w) 168 M_Logic_times (d + 4) 79 [some (.ref 82), some (.ref 89), some (.int (nI a)), some (.int (nI b)), none, none] [] A' Q) → zW l Gr (zc n w) 168 M_Logic_times (d + 4) 41 [some (.ref 82), some (.ref 89), some (.int (nI a)), some (.int (nI b)), some (.int (nI i)), none] [] A Q
  | 0, i, S, A, h, hK, hG, hX, hY, hQ => b_Logic_times_r89_41 (fun _ => hQ A hK FK_rfl (fun j hj => absurd hj (by omega))) (fun q => absurd (nI_le (a := w) (b := i) (by omega) (by omega)) q)
  | k + 1, i, S, A, h, hK, hG, hX, hY, hQ => by
    refine b_Logic_times_r89_41 (fun q => absurd q (nI_ge (a := i) (b := w) (by omega) (by omega))) (fun _ => b_Logic_times_r89_50 hg (by rw [nI_add]; exact vp_in_nI (by omega) (by omega)) (vp_in_nI (by omega) (by omega)) (w_andK (d := d + 1) hg hK hG) (fun v A1 h1 => ?_))
    rw [nI_add, nI_clamp (by omega), nI_clamp (by omega), hX i (by omega), show A.1 57 b = Y 0 from hY 0 (by omega)] at h1
    obtain ⟨ev, K1, F1⟩ := h1
    subst ev
    refine b_Logic_times_r89_72 (vp_in_nI (by omega) (by omega)) ?_
    rw [nI_clamp (by omega), show nI i + Int32.ofInt 1 = nI (i + 1) from nI_add i 1]
    refine kt_51 hg hw ha hb k (i + 1) _ _ (by omega) (KEc_zi K1 (by omega)) (k_op hG).1 (fun j hj => ?_) (fun j hj => ?_) (fun A' e1 e2 e3 => hQ A' e1 ?_ (fun j hj => ?_))
    · rw [zi_c (by decide), F1.1 57 (a + j) (by omega) (by omega)]
      exact hX j hj
    · rw [zi_c (by decide), F1.1 57 (b + j) (by omega) (by omega)]
      exact hY j hj
    · exact FK_tr (FK_x (P := fun _ _ => False) F1) (FK_tr (FK_zi (P := fun c j => c = 51 ∧ j = i) ⟨rfl, rfl⟩) e2 (P'' := fun c j => c = 51 ∧ i ≤ j ∧ j < w) (by omega) (by omega)) (fun _ _ z => z.elim) (fun _ _ z => z)
    · cases j with
      | zero => exact (e2.1 51 (i + 0) (by omega) (by omega) (by omega)).trans zi_v
      | succ j => exact (congrArg (A'.1 51) (by omega)).trans (e3 j (by omega))
theorem kt_52 (hg : ip_gk (lg_tbl, vwCl, Gr)) (hw : w ≤ 32) (hi : i < w) (ha : a + w ≤ 9682 * w) (hb : b + w ≤ 9682 * w) : ∀ (k j0 : Nat) (S A : zS), j0 + k = w - i → KEc S A → GK S → (∀ j, j < w → A.1 57 (a + j) = X j) → (∀ j, j < w → A.1 57 (b + j) = Y j) → (∀ A', KEc ((andsP X (Y i) k j0).1 S).2 A' → FK (fun c j => c = 52 ∧ j0 ≤ j ∧ j < w) A A' → (∀ j, j < k → A'.1 52 (j0 + j) = ((andsP X (Y i) k j0).1 S).1.getD j (-2)) → zW l Gr (zc n w) 168 M_Logic_times (d + 4) 138 [some (.ref 82), some (.ref 89), some (.int (nI a)), some (.int (nI b)), some (.int (nI i)), none] [] A' Q) → zW l Gr (zc n w) 168 M_Logic_times (d + 4) 94 [some (.ref 82), some (.ref 89), some (.int (nI a)), some (.int (nI b)), some (.int (nI i)), some (.int (nI j0))] [] A Q
  | 0, j0, S, A, h, hK, hG, hX, hY, hQ => b_Logic_times_r89_94 (fun _ => hQ A hK FK_rfl (fun j hj => absurd hj (by omega))) (fun q => absurd (by rw [pk_sub (by omega)]; exact nI_le (by omega) (by omega)) q)
  | k + 1, j0, S, A, h, hK, hG, hX, hY, hQ => by
    refine b_Logic_times_r89_94 (fun q => absurd q (by rw [pk_sub (by omega)]; exact nI_ge (by omega) (by omega))) (fun _ => b_Logic_times_r89_106 hg (by rw [nI_add]; exact vp_in_nI (by omega) (by omega)) (by rw [nI_add]; exact vp_in_nI (by omega) (by omega)) (w_andK (d := d + 1) hg hK hG) (fun v A1 h1 => ?_))
    rw [nI_add, nI_add, nI_clamp (by omega), nI_clamp (by omega), hX j0 (by omega), hY i (by omega)] at h1
    obtain ⟨ev, K1, F1⟩ := h1
    subst ev
    refine b_Logic_times_r89_131 (vp_in_nI (by omega) (by omega)) ?_
    rw [nI_clamp (by omega), show nI j0 + Int32.ofInt 1 = nI (j0 + 1) from nI_add j0 1]
    refine kt_52 hg hw hi ha hb k (j0 + 1) _ _ (by omega) (KEc_zi K1 (by omega)) (k_op hG).1 (fun j hj => ?_) (fun j hj => ?_) (fun A' e1 e2 e3 => hQ A' e1 ?_ (fun j hj => ?_))
    · rw [zi_c (by decide), F1.1 57 (a + j) (by omega) (by omega)]
      exact hX j hj
    · rw [zi_c (by decide), F1.1 57 (b + j) (by omega) (by omega)]
      exact hY j hj
    · exact FK_tr (FK_x (P := fun _ _ => False) F1) (FK_tr (FK_zi (P := fun c j => c = 52 ∧ j = j0) ⟨rfl, rfl⟩) e2 (P'' := fun c j => c = 52 ∧ j0 ≤ j ∧ j < w) (by omega) (by omega)) (fun _ _ z => z.elim) (fun _ _ z => z)
    · cases j with
      | zero => exact (e2.1 52 (j0 + 0) (by omega) (by omega) (by omega)).trans zi_v
      | succ j => exact (congrArg (A'.1 52) (by omega)).trans (e3 j (by omega))
theorem kt_tim (hg : ip_gk (lg_tbl, vwCl, Gr)) (hw : w ≤ 32) (ha : a + w ≤ 9682 * w) (hb : b + w ≤ 9682 * w) : ∀ (k i : Nat) (R : Nat → Int32) (S A : zS), i + k = w → KEc S A → GK S → (∀ j, j < w → A.1 57 (a + j) = X j) → (∀ j, j < w → A.1 57 (b + j) = Y j) → (∀ j, j < w → A.1 51 j = R j) → (∀ A', KEc ((timP X Y w k i R).1 S).2 A' → FK (fun c j => (c = 51 ∨ c = 52) ∧ j < w) A A' → (∀ j, j < w → A'.1 51 j = ((timP X Y w k i R).1 S).1 j) → zW l Gr (zc n w) 168 M_Logic_times (d + 4) 168 [some (.ref 82), some (.ref 89), some (.int (nI a)), none, none, none] [] A' Q) → zW l Gr (zc n w) 168 M_Logic_times (d + 4) 82 [some (.ref 82), some (.ref 89), some (.int (nI a)), some (.int (nI b)), some (.int (nI i)), none] [] A Q
  | 0, i, R, S, A, h, hK, hG, hX, hY, hR, hQ => b_Logic_times_r89_82 (fun _ => hQ A hK FK_rfl hR) (fun q => absurd (nI_le (a := w) (b := i) (by omega) (by omega)) q)
  | k + 1, i, R, S, A, h, hK, hG, hX, hY, hR, hQ => by
    refine b_Logic_times_r89_82 (fun q => absurd q (nI_ge (a := i) (b := w) (by omega) (by omega))) (fun _ => b_Logic_times_r89_91 (kt_52 (X := X) (Y := Y) hg hw (by omega) ha hb (w - i) 0 S A (by omega) hK hG hX hY (fun A1 e1 e2 e3 => b_Logic_times_r89_138 hg (by
      rw [pk_sub (by omega)]
      exact w_sum_r83_r84 (a := i) (b := 0) (m := w - i) (d := d) (X := fun j => R (i + j)) (Y := fun j => ((andsP X (Y i) (w - i) 0).1 S).1.getD j (-2)) hg hw (by omega) (by omega) e1 (k_run (BU_ands _ _) hG).1 (fun j hj => (e2.1 51 (i + j) (by omega) (by omega) (by omega)).trans (hR (i + j) (by omega))) (fun j hj => e3 j hj)) (fun A2 h2 => b_Logic_times_r89_162 ?_))))
    obtain ⟨K2, F2, r2⟩ := h2
    rw [show nI i + Int32.ofInt 1 = nI (i + 1) from nI_add i 1]
    have F : FK (fun c j => (c = 51 ∨ c = 52) ∧ j < w) A A2 := FK_tr e2 F2 (by omega) (by omega)
    refine kt_tim hg hw ha hb k (i + 1) _ _ A2 (by omega) K2 (k_run (BU_sum _ _ _) (k_run (BU_ands _ _) hG).1).1 (fun j hj => (F.1 57 (a + j) (by omega) (by omega) (by omega)).trans (hX j hj)) (fun j hj => (F.1 57 (b + j) (by omega) (by omega) (by omega)).trans (hY j hj)) (fun j hj => ?_) (fun A' q1 q2 q3 => hQ A' q1 (FK_tr F q2 (by omega) (by omega)) q3)
    by_cases z : j < i
    · simp only [if_pos z]
      rw [F2.1 51 j (by omega) (by omega) (by omega), e2.1 51 j (by omega) (by omega) (by omega)]
      exact hR j hj
    · simp only [if_neg z]
      have := r2 (j - i) (by omega)
      rw [show i + (j - i) = j by omega] at this
      exact this
end TIM
