/-! less, on both sides -/
def lessP (X Y : Nat → Int32) : Nat → Nat → Int32 → CP Int32
  | 0, _, c => cRet (c ^^^ 1)
  | k + 1, i, c => cOp false (Y i ^^^ 1) c fun t => cOp false (X i) c fun u => cOp true u t fun v => cOp false c v fun c' => lessP X Y k (i + 1) c'
def flp (w : Nat) (X : Nat → Int32) (j : Nat) : Int32 := if j + 1 = w then X j ^^^ 1 else X j
section LES
variable {l : Launch} {Gr : zG} {n w : Nat} {d : Nat} {S A T B : zS} {c x y : Int32} {X Y : Nat → Int32} {Q : Option Value → zS → Prop} {a b m : Nat}
theorem BU_less : ∀ (k i : Nat) (c : Int32), BU (lessP X Y k i c)
  | 0, _, _ => BU_ret
  | k + 1, i, _ => BU_op (fun _ => BU_op (fun _ => BU_op (fun _ => BU_op (fun c' => BU_less k (i + 1) c'))))
theorem W_less : ∀ (k i : Nat) (c : Int32) (T : zS), (∀ j, VC T (X j)) → (∀ j, VC T (Y j)) → VC T c → mWF VC (lessP X Y k i c) T
  | 0, _, _, _, _, _, hc => mWF_ret (VC_f hc)
  | k + 1, i, c, T, hX, hY, hc => mWF_op (fun _ => BU_op (fun _ => BU_op (fun _ => BU_op (fun c' => BU_less k (i + 1) c')))) (VC_f (hY i)) hc (fun T1 t m1 ht =>
      mWF_op (fun _ => BU_op (fun _ => BU_op (fun c' => BU_less k (i + 1) c'))) (VC_m m1 (hX i)) (VC_m m1 hc) (fun T2 u m2 hu =>
      mWF_op (fun _ => BU_op (fun c' => BU_less k (i + 1) c')) hu (VC_m m2 ht) (fun T3 v m3 hv =>
      mWF_op (fun c' => BU_less k (i + 1) c') (VC_m m3 (VC_m m2 (VC_m m1 hc))) hv (fun T4 c' m4 hc' => by
        have mm := MOK_tr m1 (MOK_tr m2 (MOK_tr m3 m4))
        exact W_less k (i + 1) c' T4 (fun j => VC_m mm (hX j)) (fun j => VC_m mm (hY j)) hc'))))
theorem VC_flp (h : ∀ j, VC T (X j)) (j : Nat) : VC T (flp w X j) := by
  unfold flp
  split
  · exact VC_f (h j)
  · exact h j
theorem kl_less (hg : ip_gk (lg_tbl, vwCl, Gr)) (hw : w ≤ 32) (ha : a + w ≤ 9682 * w) (hb : b + w ≤ 9682 * w) : ∀ (k i : Nat) (c : Int32) (S A : zS), i + k = w → KEc S A → GK S → (∀ j, j < w → A.1 57 (a + j) = X j) → (∀ j, j < w → A.1 57 (b + j) = Y j) → (∀ A', KEc ((lessP (flp w X) (flp w Y) k i c).1 S).2 A' → KX A A' → Q (some (.int ((lessP (flp w X) (flp w Y) k i c).1 S).1)) A') → zW l Gr (zc n w) 168 M_Logic_less (d + 3) 6 [some (.ref 82), some (.ref 89), some (.int (nI a)), some (.int (nI b)), some (.int c), some (.int (nI i)), none, none, none] [] A Q
  | 0, i, c, S, A, h, hK, hG, hX, hY, hQ => b_Logic_less_r89_6 (fun _ => b_Logic_less_r89_103 (hQ A hK KX_rfl)) (fun q => absurd (nI_le (a := w) (b := i) (by omega) (by omega)) q)
  | k + 1, i, c, S, A, h, hK, hG, hX, hY, hQ => by
    have inA : vp_in (nI a + nI i) (9682 * w) := by rw [nI_add]; exact vp_in_nI (by omega) (by omega)
    have inB : vp_in (nI b + nI i) (9682 * w) := by rw [nI_add]; exact vp_in_nI (by omega) (by omega)
    have main : ∀ s : Int32, Y i ^^^ s = flp w Y i → X i ^^^ s = flp w X i → zW l Gr (zc n w) 168 M_Logic_less (d + 3) 31 [some (.ref 82), some (.ref 89), some (.int (nI a)), some (.int (nI b)), some (.int c), some (.int (nI i)), none, none, none] [.int s] A Q := fun s sY sX => by
      refine b_Logic_less_r89_31 hg inB (w_xorK hg hK hG) (fun t A1 h1 => ?_)
      rw [nI_add, nI_clamp (by omega), hY i (by omega), sY] at h1
      obtain ⟨et, K1, F1⟩ := h1
      subst et
      refine b_Logic_less_r89_53 hg inA (w_xorK hg K1 (k_op hG).1) (fun u A2 h2 => ?_)
      rw [nI_add, nI_clamp (by omega), F1.1 57 (a + i) (by omega) (by omega), hX i (by omega), sX] at h2
      obtain ⟨eu, K2, F2⟩ := h2
      subst eu
      refine b_Logic_less_r89_73 hg (w_andK hg K2 (k_op (k_op hG).1).1) (fun v A3 h3 => ?_)
      obtain ⟨ev, K3, F3⟩ := h3
      subst ev
      refine b_Logic_less_r89_92 hg (w_xorK hg K3 (k_op (k_op (k_op hG).1).1).1) (fun c' A4 h4 => b_Logic_less_r89_95 ?_)
      obtain ⟨ec, K4, F4⟩ := h4
      subst ec
      have F := KX_tr F1 (KX_tr F2 (KX_tr F3 F4))
      rw [show nI i + Int32.ofInt 1 = nI (i + 1) from nI_add i 1]
      exact kl_less hg hw ha hb k (i + 1) _ _ _ (by omega) K4 (k_op (k_op (k_op (k_op hG).1).1).1).1 (fun j hj => (F.1 57 (a + j) (by omega) (by omega)).trans (hX j hj)) (fun j hj => (F.1 57 (b + j) (by omega) (by omega)).trans (hY j hj)) (fun A' e1 e2 => hQ A' e1 (KX_tr F e2))
    refine b_Logic_less_r89_6 (fun q => absurd q (nI_ge (a := i) (b := w) (by omega) (by omega))) (fun _ => b_Logic_less_r89_15 (fun z => b_Logic_less_r89_30 (main 0 ?_ ?_)) (fun z => b_Logic_less_r89_26 (main 1 ?_ ?_)))
    · have : ¬ i + 1 = w := fun q => z (by rw [← q, nI_pred])
      unfold flp
      rw [if_neg this, Int32.xor_zero]
    · have : ¬ i + 1 = w := fun q => z (by rw [← q, nI_pred])
      unfold flp
      rw [if_neg this, Int32.xor_zero]
    · have : i + 1 = w := by
        rw [show w = (w - 1) + 1 by omega, nI_pred] at z
        have := (nI_eq (by omega) (by omega)).mp z
        omega
      unfold flp
      rw [if_pos this]
    · have : i + 1 = w := by
        rw [show w = (w - 1) + 1 by omega, nI_pred] at z
        have := (nI_eq (by omega) (by omega)).mp z
        omega
      unfold flp
      rw [if_pos this]
theorem w_less (hg : ip_gk (lg_tbl, vwCl, Gr)) (hw : w ≤ 32) (ha : a + w ≤ 9682 * w) (hb : b + w ≤ 9682 * w) (hK : KEc S A) (hG : GK S) (hX : ∀ j, j < w → A.1 57 (a + j) = X j) (hY : ∀ j, j < w → A.1 57 (b + j) = Y j) : zMi l Gr (zc n w) 168 M_Logic_less (d + 3) [.ref 82, .ref 89, .int (nI a), .int (nI b)] A (fun v A' => v = ((lessP (flp w X) (flp w Y) w 0 (-1)).1 S).1 ∧ KEc ((lessP (flp w X) (flp w Y) w 0 (-1)).1 S).2 A' ∧ KX A A') :=
  e_Logic_less_r89 (b_Logic_less_r89_0 (kl_less hg hw ha hb w 0 (-1) S A (by omega) hK hG hX hY (fun A' e1 e2 => ⟨_, rfl, rfl, e1, e2⟩)))
theorem ml_less (hg : ip_gk (lg_tbl, vwCl, Gr)) (hw : w ≤ 32) : ∀ (k i : Nat) (c : Int32) (T B : zS), i + k = w → MEc T B → MW T → VC T c → (∀ j, VC T (X j)) → (∀ j, VC T (Y j)) → (∀ j, j < w → B.1 123 j = X j) → (∀ j, j < w → B.1 124 j = Y j) → (∀ B', MEc ((lessP X Y k i c).2 T).2 B' → KXm B B' → Q (some (.int ((lessP X Y k i c).2 T).1)) B') → zW l Gr (zc n w) 168 M_Mo_less (d + 3) 52 [some (.ref 105), some (.int c), some (.int (nI i)), none, none] [] B Q
  | 0, i, c, T, B, h, hK, hW, hc, vX, vY, hX, hY, hQ => b_Mo_less_52 (fun _ => b_Mo_less_106 (hQ B hK KXm_rfl)) (fun q => absurd (nI_le (a := w) (b := i) (by omega) (by omega)) q)
  | k + 1, i, c, T, B, h, hK, hW, hc, vX, vY, hX, hY, hQ => by
    have inA : vp_in (nI i) 40 := vp_in_nI (by omega) (by omega)
    have o1 := m_op (b := false) hW (VC_f (vY i)) hc
    have o2 := m_op (b := false) (MOK_W o1.1) (VC_m o1.1 (vX i)) (VC_m o1.1 hc)
    have o3 := m_op (b := true) (MOK_W o2.1) o2.2.1 (VC_m o2.1 o1.2.1)
    have m3 := MOK_tr o1.1 (MOK_tr o2.1 o3.1)
    have o4 := m_op (b := false) (MOK_W o3.1) (VC_m m3 hc) o3.2.1
    have m4 := MOK_tr m3 o4.1
    have eY : B.1 124 ((nI i).toNatClampNeg) = Y i := by rw [nI_clamp (by omega)]; exact hY i (by omega)
    refine b_Mo_less_52 (fun q => absurd q (nI_ge (a := i) (b := w) (by omega) (by omega))) (fun _ => b_Mo_less_60 hg inA (by rw [eY]; exact wm_xorK hg hK hW (VC_f (vY i)) hc) (fun t B1 h1 => ?_))
    obtain ⟨et, K1, F1⟩ := h1
    subst et
    have eX : B1.1 123 ((nI i).toNatClampNeg) = X i := by rw [nI_clamp (by omega), F1.1 123 i (by omega) (by omega)]; exact hX i (by omega)
    refine b_Mo_less_73 hg inA (by rw [eX]; exact wm_xorK hg K1 (MOK_W o1.1) (VC_m o1.1 (vX i)) (VC_m o1.1 hc)) (fun u B2 h2 => ?_)
    obtain ⟨eu, K2, F2⟩ := h2
    subst eu
    refine b_Mo_less_85 hg (wm_andK hg K2 (MOK_W o2.1) o2.2.1 (VC_m o2.1 o1.2.1)) (fun v B3 h3 => ?_)
    obtain ⟨ev, K3, F3⟩ := h3
    subst ev
    refine b_Mo_less_96 hg (wm_xorK hg K3 (MOK_W o3.1) (VC_m m3 hc) o3.2.1) (fun c' B4 h4 => b_Mo_less_99 ?_)
    obtain ⟨ec, K4, F4⟩ := h4
    subst ec
    have F := KXm_tr F1 (KXm_tr F2 (KXm_tr F3 F4))
    rw [show nI i + Int32.ofInt 1 = nI (i + 1) from nI_add i 1]
    exact ml_less hg hw k (i + 1) _ _ _ (by omega) K4 (MOK_W o4.1) o4.2.1 (fun j => VC_m m4 (vX j)) (fun j => VC_m m4 (vY j)) (fun j hj => (F.1 123 j (by omega) (by omega)).trans (hX j hj)) (fun j hj => (F.1 124 j (by omega) (by omega)).trans (hY j hj)) (fun B' e1 e2 => hQ B' e1 (KXm_tr F e2))
theorem wm_less (hg : ip_gk (lg_tbl, vwCl, Gr)) (hw : w ≤ 32) (hw1 : 1 ≤ w) (hK : MEc T B) (hW : MW T) (vX : ∀ j, VC T (X j)) (vY : ∀ j, VC T (Y j)) (hX : ∀ j, j < w → B.1 123 j = X j) (hY : ∀ j, j < w → B.1 124 j = Y j) : zMi l Gr (zc n w) 168 M_Mo_less (d + 3) [.ref 105] B (fun v B' => v = ((lessP (flp w X) (flp w Y) w 0 (-1)).2 T).1 ∧ MEc ((lessP (flp w X) (flp w Y) w 0 (-1)).2 T).2 B' ∧ FM (fun c j => (c = 123 ∨ c = 124) ∧ j < w) B B') := by
  have ew : nI w - 1 = nI (w - 1) := by
    rw [show w = (w - 1) + 1 by omega, nI_pred]
    rfl
  refine e_Mo_less (b_Mo_less_0 (by rw [ew]; exact vp_in_nI (by omega) (by omega)) ?_)
  rw [ew, nI_clamp (by omega)]
  refine ml_less hg hw w 0 (-1) T _ (by omega) (MEc_zi (MEc_zi hK (by omega)) (by omega)) hW VC_c1 (VC_flp vX) (VC_flp vY) (fun j hj => ?_) (fun j hj => ?_) (fun B' e1 e2 => ⟨_, rfl, rfl, e1, ?_⟩)
  · rw [zi_c (by decide), zi_get]
    unfold flp
    by_cases z : j + 1 = w
    · rw [if_pos ⟨rfl, by omega⟩, if_pos z, hX (w - 1) (by omega), show w - 1 = j by omega]
    · rw [if_neg (by omega), if_neg z, hX j hj]
  · rw [zi_get]
    unfold flp
    by_cases z : j + 1 = w
    · rw [if_pos ⟨rfl, by omega⟩, if_pos z, hY (w - 1) (by omega), show w - 1 = j by omega]
    · rw [if_neg (by omega), if_neg z, zi_c (by decide), hY j hj]
  · exact FM_tr (FM_zi (P := fun c j => (c = 123 ∨ c = 124) ∧ j < w) ⟨Or.inl rfl, by omega⟩) (FM_tr (FM_zi (P := fun c j => (c = 123 ∨ c = 124) ∧ j < w) ⟨Or.inr rfl, by omega⟩) (FM_x (P := fun _ _ => False) e2) (P'' := fun c j => (c = 123 ∨ c = 124) ∧ j < w) (fun _ _ q => q) (fun _ _ q => q.elim)) (fun _ _ q => q) (fun _ _ q => q)
end LES
