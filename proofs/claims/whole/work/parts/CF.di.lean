/-! divide: the programs, and the class (without its shortcut) -/
def takP (D Y : Nat → Int32) : Nat → Nat → Int32 → CP (Int32 × List Int32)
  | 0, j, c => cOp false (Y j ^^^ 1) c fun t => cOp false (D j) c fun u => cOp true u t fun v => cOp false c v fun c' => cRet (c', [])
  | k + 1, j, c => cOp false (Y j ^^^ 1) c fun t => cOp false (D j) t fun o => cOp false (D j) c fun u => cOp true u t fun v => cOp false c v fun c' => cBind (takP D Y k (j + 1) c') fun r => cRet (r.1, o :: r.2)
def muxsP (c : Int32) (F D : Nat → Int32) : Nat → Nat → CP (List Int32)
  | 0, _ => cRet []
  | k + 1, j => cBind (muxP c (F j) (D j)) fun v => cBind (muxsP c F D k (j + 1)) fun os => cRet (v :: os)
def dvD (x : Int32) (Rm : Nat → Int32) (j : Nat) : Int32 := if j = 0 then x else Rm (j - 1)
def divP (X Y : Nat → Int32) (w : Nat) : Nat → (Nat → Int32) → (Nat → Int32) → CP ((Nat → Int32) × (Nat → Int32))
  | 0, Rm, Qo => cRet (Qo, Rm)
  | k + 1, Rm, Qo => cBind (takP (dvD (X k) Rm) Y w 0 (-1)) fun r => cBind (muxsP r.1 (fun j => r.2.getD j (-2)) (dvD (X k) Rm) w 0) fun os => divP X Y w k (fun j => os.getD j (-2)) (fun j => if j = k then r.1 else Qo j)
def ext2 (w : Nat) (Y : Nat → Int32) (j : Nat) : Int32 := if j < w then Y j else -2
def divideP (X Y : Nat → Int32) (w : Nat) : CP ((Nat → Int32) × (Nat → Int32)) := divP X (ext2 w Y) w w (fun _ => -2) (fun _ => -2)
section DIV
variable {l : Launch} {Gr : zG} {n w : Nat} {d : Nat} {S A T B : zS} {c x y : Int32} {X Y D F Rm Qo : Nat → Int32} {Q : Option Value → zS → Prop} {a b m i : Nat} {P : Nat → Nat → Prop}
theorem BU_tak : ∀ (k j : Nat) (c : Int32), BU (takP D Y k j c)
  | 0, _, _ => BU_op (fun _ => BU_op (fun _ => BU_op (fun _ => BU_op (fun _ => BU_ret))))
  | k + 1, j, _ => BU_op (fun _ => BU_op (fun _ => BU_op (fun _ => BU_op (fun _ => BU_op (fun c' => BU_bind (BU_tak k (j + 1) c') (fun _ => BU_ret))))))
theorem W_tak : ∀ (k j : Nat) (c : Int32) (T : zS), (∀ j, VC T (D j)) → (∀ j, VC T (Y j)) → VC T c → mWF (fun T r => VC T r.1 ∧ VLs T r.2) (takP D Y k j c) T
  | 0, j, c, T, hD, hY, hc => mWF_op (fun _ => BU_op (fun _ => BU_op (fun _ => BU_op (fun _ => BU_ret)))) (VC_f (hY j)) hc (fun _ t m1 ht =>
      mWF_op (fun _ => BU_op (fun _ => BU_op (fun _ => BU_ret))) (VC_m m1 (hD j)) (VC_m m1 hc) (fun _ u m2 hu =>
      mWF_op (fun _ => BU_op (fun _ => BU_ret)) hu (VC_m m2 ht) (fun _ v m3 hv =>
      mWF_op (fun _ => BU_ret) (VC_m m3 (VC_m m2 (VC_m m1 hc))) hv (fun _ c' m4 hc' => mWF_ret ⟨hc', VLs_nil⟩))))
  | k + 1, j, c, T, hD, hY, hc => mWF_op (fun _ => BU_op (fun _ => BU_op (fun _ => BU_op (fun _ => BU_op (fun c' => BU_bind (BU_tak k (j + 1) c') (fun _ => BU_ret)))))) (VC_f (hY j)) hc (fun _ t m1 ht =>
      mWF_op (fun _ => BU_op (fun _ => BU_op (fun _ => BU_op (fun c' => BU_bind (BU_tak k (j + 1) c') (fun _ => BU_ret))))) (VC_m m1 (hD j)) ht (fun _ o m2 ho =>
      mWF_op (fun _ => BU_op (fun _ => BU_op (fun c' => BU_bind (BU_tak k (j + 1) c') (fun _ => BU_ret)))) (VC_m m2 (VC_m m1 (hD j))) (VC_m m2 (VC_m m1 hc)) (fun _ u m3 hu =>
      mWF_op (fun _ => BU_op (fun c' => BU_bind (BU_tak k (j + 1) c') (fun _ => BU_ret))) hu (VC_m m3 (VC_m m2 ht)) (fun _ v m4 hv =>
      mWF_op (fun c' => BU_bind (BU_tak k (j + 1) c') (fun _ => BU_ret)) (VC_m m4 (VC_m m3 (VC_m m2 (VC_m m1 hc)))) hv (fun T5 c' m5 hc' => by
        have mm := MOK_tr m1 (MOK_tr m2 (MOK_tr m3 (MOK_tr m4 m5)))
        have ho' := VC_m m5 (VC_m m4 (VC_m m3 ho))
        exact mWF_seq (fun _ => BU_ret) (W_tak k (j + 1) c' T5 (fun j => VC_m mm (hD j)) (fun j => VC_m mm (hY j)) hc') (fun T6 r m6 h6 => mWF_ret ⟨h6.1, VLs_cons (m6 _ ho') h6.2⟩))))))
theorem BU_muxs : ∀ (k j : Nat), BU (muxsP c F D k j)
  | 0, _ => BU_ret
  | k + 1, j => BU_bind BU_mux (fun _ => BU_bind (BU_muxs k (j + 1)) (fun _ => BU_ret))
theorem W_muxs : ∀ (k j : Nat) (T : zS), VC T c → (∀ j, VC T (F j)) → (∀ j, VC T (D j)) → mWF VLs (muxsP c F D k j) T
  | 0, _, _, _, _, _ => mWF_ret VLs_nil
  | k + 1, j, T, hc, hF, hD => mWF_seq (fun _ => BU_bind (BU_muxs k (j + 1)) (fun _ => BU_ret)) (W_mux hc (hF j) (hD j)) (fun T1 v m1 hv => mWF_seq (fun _ => BU_ret) (W_muxs k (j + 1) T1 (m1 _ hc) (fun j => m1 _ (hF j)) (fun j => m1 _ (hD j))) (fun T2 os m2 h2 => mWF_ret (VLs_cons (m2 _ hv) h2)))
theorem VC_dvD (hx : VC T x) (hR : ∀ j, VC T (Rm j)) (j : Nat) : VC T (dvD x Rm j) := by
  unfold dvD
  split
  · exact hx
  · exact hR _
theorem VC_ext (h : ∀ j, VC T (Y j)) (j : Nat) : VC T (ext2 w Y j) := by
  unfold ext2
  split
  · exact h j
  · exact VC_c2
theorem BU_div : ∀ (k : Nat) (Rm Qo : Nat → Int32), BU (divP X Y w k Rm Qo)
  | 0, _, _ => BU_ret
  | k + 1, _, _ => BU_bind (BU_tak _ _ _) (fun _ => BU_bind (BU_muxs _ _) (fun _ => BU_div k _ _))
theorem W_div : ∀ (k : Nat) (Rm Qo : Nat → Int32) (T : zS), (∀ j, VC T (X j)) → (∀ j, VC T (Y j)) → (∀ j, VC T (Rm j)) → (∀ j, VC T (Qo j)) → mWF (fun T r => VFs T r.1 ∧ VFs T r.2) (divP X Y w k Rm Qo) T
  | 0, _, _, _, _, _, hR, hQ => mWF_ret ⟨hQ, hR⟩
  | k + 1, Rm, Qo, T, hX, hY, hR, hQ => mWF_seq (fun _ => BU_bind (BU_muxs _ _) (fun _ => BU_div k _ _)) (W_tak _ _ _ T (VC_dvD (hX k) hR) hY VC_c1) (fun T1 r m1 h1 => mWF_seq (fun _ => BU_div k _ _) (W_muxs _ _ T1 h1.1 h1.2 (fun j => m1 _ (VC_dvD (hX k) hR j))) (fun T2 os m2 h2 => W_div k _ _ T2 (fun j => m2 _ (m1 _ (hX j))) (fun j => m2 _ (m1 _ (hY j))) h2 (fun j => by
      by_cases z : j = k
      · simp only [if_pos z]
        exact m2 _ h1.1
      · simp only [if_neg z]
        exact m2 _ (m1 _ (hQ j)))))
theorem BU_divide : BU (divideP X Y w) := BU_div _ _ _
theorem W_divide (hX : ∀ j, VC T (X j)) (hY : ∀ j, VC T (Y j)) : mWF (fun T r => VFs T r.1 ∧ VFs T r.2) (divideP X Y w) T := W_div _ _ _ T hX (VC_ext hY) (fun _ => VC_c2) (fun _ => VC_c2)
theorem kd_tak (hg : ip_gk (lg_tbl, vwCl, Gr)) (hw : w ≤ 32) (hb : b + w ≤ 9682 * w) : ∀ (k j : Nat) (c : Int32) (S A : zS), j + k = w → KEc S A → GK S → (∀ j, j ≤ w → A.1 54 j = D j) → (∀ j, j < w → A.1 57 (b + j) = Y j) → (∀ A', KEc ((takP D (ext2 w Y) k j c).1 S).2 A' → FK (fun c j' => c = 53 ∧ j ≤ j' ∧ j' < w) A A' → (∀ j', j' < k → A'.1 53 (j + j') = ((takP D (ext2 w Y) k j c).1 S).1.2.getD j' (-2)) → Q (some (.int ((takP D (ext2 w Y) k j c).1 S).1.1)) A') → zW l Gr (zc n w) 168 M_Logic_takeAway (d + 3) 5 [some (.ref 82), some (.ref 89), some (.int (nI b)), some (.int c), some (.int (nI j)), none, none] [] A Q
  | 0, j, c, S, A, h, hK, hG, hD, hY, hQ => by
    have ey : (-1 : Int32) = ext2 w Y j ^^^ 1 := by
      unfold ext2
      rw [if_neg (by omega)]
      decide
    refine b_Logic_takeAway_r89_5 (fun q => absurd q (nI_nlt (by omega) (by omega))) (fun _ => b_Logic_takeAway_r89_14 (fun _ => b_Logic_takeAway_r89_38 (b_Logic_takeAway_r89_39 hg (w_xorK hg hK hG) (fun t A1 h1 => ?_))) (fun q => absurd (nI_le (by omega) (by omega)) q))
    rw [ey] at h1
    obtain ⟨et, K1, F1⟩ := h1
    subst et
    refine b_Logic_takeAway_r89_43 (fun _ => b_Logic_takeAway_r89_77 hg (vp_in_nI (by omega) (by omega)) (w_xorK hg K1 (k_op hG).1) (fun u A2 h2 => ?_)) (fun q => absurd (nI_le (by omega) (by omega)) q)
    rw [nI_clamp (by omega), F1.1 54 j (by omega) (by omega), hD j (by omega)] at h2
    obtain ⟨eu, K2, F2⟩ := h2
    subst eu
    refine b_Logic_takeAway_r89_92 hg (w_andK hg K2 (k_op (k_op hG).1).1) (fun v A3 h3 => ?_)
    obtain ⟨ev, K3, F3⟩ := h3
    subst ev
    refine b_Logic_takeAway_r89_110 hg (w_xorK hg K3 (k_op (k_op (k_op hG).1).1).1) (fun c' A4 h4 => b_Logic_takeAway_r89_113 ?_)
    obtain ⟨ec, K4, F4⟩ := h4
    subst ec
    refine b_Logic_takeAway_r89_5 (fun _ => b_Logic_takeAway_r89_120 (hQ A4 K4 (FK_x (KX_tr F1 (KX_tr F2 (KX_tr F3 F4)))) (fun j' hj => absurd hj (by omega)))) (fun q => absurd ?_ q)
    rw [show nI j + Int32.ofInt 1 = nI (j + 1) from nI_add j 1]
    exact (nI_ltI (by omega) (by omega)).mpr (by omega)
  | k + 1, j, c, S, A, h, hK, hG, hD, hY, hQ => by
    have ey : Y j ^^^ 1 = ext2 w Y j ^^^ 1 := by
      unfold ext2
      rw [if_pos (by omega)]
    refine b_Logic_takeAway_r89_5 (fun q => absurd q (nI_nlt (by omega) (by omega))) (fun _ => b_Logic_takeAway_r89_14 (fun q => absurd q (nI_ge (by omega) (by omega))) (fun _ => b_Logic_takeAway_r89_27 (by rw [nI_add]; exact vp_in_nI (by omega) (by omega)) (b_Logic_takeAway_r89_39 hg (w_xorK hg hK hG) (fun t A1 h1 => ?_))))
    rw [nI_add, nI_clamp (by omega), hY j (by omega), ey] at h1
    obtain ⟨et, K1, F1⟩ := h1
    subst et
    refine b_Logic_takeAway_r89_43 (fun q => absurd q (nI_ge (by omega) (by omega))) (fun _ => b_Logic_takeAway_r89_54 hg (vp_in_nI (by omega) (by omega)) (w_xorK hg K1 (k_op hG).1) (fun o A2 h2 => ?_))
    rw [nI_clamp (by omega), F1.1 54 j (by omega) (by omega), hD j (by omega)] at h2
    obtain ⟨eo, K2, F2⟩ := h2
    subst eo
    have G2 := (k_op (b := false) (x := D j) (y := (kOp false S (ext2 w Y j ^^^ 1) c).1) (k_op (b := false) (x := ext2 w Y j ^^^ 1) (y := c) hG).1).1
    refine b_Logic_takeAway_r89_76 (vp_in_nI (by omega) (by omega)) ?_
    rw [nI_clamp (by omega)]
    refine b_Logic_takeAway_r89_77 hg (vp_in_nI (by omega) (by omega)) (w_xorK hg (KEc_zi K2 (by omega)) G2) (fun u A3 h3 => ?_)
    rw [nI_clamp (by omega), zi_c (by decide), F2.1 54 j (by omega) (by omega), F1.1 54 j (by omega) (by omega), hD j (by omega)] at h3
    obtain ⟨eu, K3, F3⟩ := h3
    subst eu
    refine b_Logic_takeAway_r89_92 hg (w_andK hg K3 (k_op G2).1) (fun v A4 h4 => ?_)
    obtain ⟨ev, K4, F4⟩ := h4
    subst ev
    refine b_Logic_takeAway_r89_110 hg (w_xorK hg K4 (k_op (k_op G2).1).1) (fun c' A5 h5 => b_Logic_takeAway_r89_113 ?_)
    obtain ⟨ec, K5, F5⟩ := h5
    subst ec
    rw [show nI j + Int32.ofInt 1 = nI (j + 1) from nI_add j 1]
    have f : FK (fun c' j' => c' = 53 ∧ j' = j) A A5 := FK_tr (FK_x (P := fun _ _ => False) (KX_tr F1 F2)) (FK_tr (FK_zi (P := fun c' j' => c' = 53 ∧ j' = j) ⟨rfl, rfl⟩) (FK_x (P := fun _ _ => False) (KX_tr F3 (KX_tr F4 F5))) (P'' := fun c' j' => c' = 53 ∧ j' = j) (fun _ _ q => q) (fun _ _ q => q.elim)) (fun _ _ q => q.elim) (fun _ _ q => q)
    have ev : A5.1 53 j = (kOp false (kOp false S (ext2 w Y j ^^^ 1) c).2 (D j) (kOp false S (ext2 w Y j ^^^ 1) c).1).1 := by
      rw [(KX_tr F3 (KX_tr F4 F5)).1 53 j (by omega) (by omega)]
      exact zi_v
    refine kd_tak hg hw hb k (j + 1) _ _ _ (by omega) K5 (k_op (k_op (k_op G2).1).1).1 (fun j' hj => (f.1 54 j' (by omega) (by omega) (by omega)).trans (hD j' hj)) (fun j' hj => (f.1 57 (b + j') (by omega) (by omega) (by omega)).trans (hY j' hj)) (fun A' e1 e2 e3 => hQ A' e1 ?_ (fun j' hj => ?_))
    · exact FK_tr f e2 (by omega) (by omega)
    · cases j' with
      | zero => exact (e2.1 53 (j + 0) (by omega) (by omega) (by omega)).trans ev
      | succ j' => exact (congrArg (A'.1 53) (by omega)).trans (e3 j' (by omega))
theorem w_takeAway (hg : ip_gk (lg_tbl, vwCl, Gr)) (hw : w ≤ 32) (hb : b + w ≤ 9682 * w) (hK : KEc S A) (hG : GK S) (hD : ∀ j, j ≤ w → A.1 54 j = D j) (hY : ∀ j, j < w → A.1 57 (b + j) = Y j) : zMi l Gr (zc n w) 168 M_Logic_takeAway (d + 3) [.ref 82, .ref 89, .int (nI b)] A (fun v A' => v = ((takP D (ext2 w Y) w 0 (-1)).1 S).1.1 ∧ KEc ((takP D (ext2 w Y) w 0 (-1)).1 S).2 A' ∧ FK (fun c j' => c = 53 ∧ j' < w) A A' ∧ ∀ j', j' < w → A'.1 53 j' = ((takP D (ext2 w Y) w 0 (-1)).1 S).1.2.getD j' (-2)) :=
  e_Logic_takeAway_r89 (b_Logic_takeAway_r89_0 (kd_tak hg hw hb w 0 (-1) S A (by omega) hK hG hD hY (fun A' e1 e2 e3 => ⟨_, rfl, rfl, e1, FK_mo e2 (by omega), fun j' hj => by
    have := e3 j' hj
    rw [Nat.zero_add] at this
    exact this⟩)))
theorem kd_mux (hg : ip_gk (lg_tbl, vwCl, Gr)) (hw : w ≤ 32) {x3 x4 x5 : Int32} : ∀ (k j : Nat) (S A : zS), j + k = w → KEc S A → GK S → (∀ j, j < w → A.1 53 j = F j) → (∀ j, j < w → A.1 54 j = D j) → (∀ A', KEc ((muxsP c F D k j).1 S).2 A' → FK (fun c j' => c = 52 ∧ j ≤ j' ∧ j' < w) A A' → (∀ j', j' < k → A'.1 52 (j + j') = ((muxsP c F D k j).1 S).1.getD j' (-2)) → zW l Gr (zc n w) 168 M_Logic_divide (d + 4) 155 [some (.ref 82), some (.ref 89), some (.int (nI a)), some (.int x3), some (.int x4), some (.int x5), none, none] [] A' Q) → zW l Gr (zc n w) 168 M_Logic_divide (d + 4) 113 [some (.ref 82), some (.ref 89), some (.int (nI a)), some (.int x3), some (.int x4), some (.int x5), some (.int c), some (.int (nI j))] [] A Q
  | 0, j, S, A, h, hK, hG, hF, hD, hQ => b_Logic_divide_r89_113 (fun _ => hQ A hK FK_rfl (fun j' hj => absurd hj (by omega))) (fun q => absurd (nI_le (by omega) (by omega)) q)
  | k + 1, j, S, A, h, hK, hG, hF, hD, hQ => by
    refine b_Logic_divide_r89_113 (fun q => absurd q (nI_ge (by omega) (by omega))) (fun _ => b_Logic_divide_r89_122 hg (vp_in_nI (by omega) (by omega)) (vp_in_nI (by omega) (by omega)) (w_muxK hg hK hG) (fun v A1 h1 => ?_))
    rw [nI_clamp (by omega), hF j (by omega), hD j (by omega)] at h1
    obtain ⟨ev, K1, F1⟩ := h1
    subst ev
    refine b_Logic_divide_r89_148 (vp_in_nI (by omega) (by omega)) ?_
    rw [nI_clamp (by omega), show nI j + Int32.ofInt 1 = nI (j + 1) from nI_add j 1]
    refine kd_mux hg hw k (j + 1) _ _ (by omega) (KEc_zi K1 (by omega)) (k_run BU_mux hG).1 (fun j' hj => ?_) (fun j' hj => ?_) (fun A' e1 e2 e3 => hQ A' e1 ?_ (fun j' hj => ?_))
    · rw [zi_c (by decide), F1.1 53 j' (by omega) (by omega)]
      exact hF j' hj
    · rw [zi_c (by decide), F1.1 54 j' (by omega) (by omega)]
      exact hD j' hj
    · exact FK_tr (FK_x (P := fun _ _ => False) F1) (FK_tr (FK_zi (P := fun c j' => c = 52 ∧ j' = j) ⟨rfl, rfl⟩) e2 (P'' := fun c j' => c = 52 ∧ j ≤ j' ∧ j' < w) (by omega) (by omega)) (fun _ _ z => z.elim) (fun _ _ z => z)
    · cases j' with
      | zero => exact (e2.1 52 (j + 0) (by omega) (by omega) (by omega)).trans zi_v
      | succ j' => exact (congrArg (A'.1 52) (by omega)).trans (e3 j' (by omega))
end DIV
