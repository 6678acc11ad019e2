/-! divide: the rest of both; times: the class's end -/
section DIX
variable {l : Launch} {Gr : zG} {n w : Nat} {d : Nat} {S A T B : zS} {c x y : Int32} {X Y D F Rm Qo O : Nat → Int32} {Q : Option Value → zS → Prop} {a b m i : Nat} {P : Nat → Nat → Prop}
theorem md_sh (hw : w ≤ 32) : ∀ (k : Nat) (B : zS), k ≤ w → MEc T B → (∀ j, j < w → B.1 129 j = Rm j) → (∀ j, k < j → j ≤ w → B.1 125 j = Rm (j - 1)) → (∀ B', MEc T B' → FM (fun c j => c = 125 ∧ j < 40) B B' → (∀ j, 1 ≤ j → j ≤ w → B'.1 125 j = Rm (j - 1)) → zW l Gr (zc n w) 168 M_Mo_divide (d + 4) 75 [some (.ref 105), some (.int (nI i)), none, none, none, none] [] B' Q) → zW l Gr (zc n w) 168 M_Mo_divide (d + 4) 51 [some (.ref 105), some (.int (nI i)), some (.int (nI k)), none, none, none] [] B Q
  | 0, B, h, hK, hR, hB, hQ => b_Mo_divide_51 (fun _ => hQ B hK FM_rfl (fun j q1 q2 => hB j (by omega) q2)) (fun q => absurd (Int32.le_refl _) q)
  | k + 1, B, h, hK, hR, hB, hQ => by
    refine b_Mo_divide_51 (fun q => absurd q (nI_ge (a := 0) (by omega) (by omega))) (fun _ => b_Mo_divide_55 (by rw [nI_pred]; exact vp_in_nI (by omega) (by omega)) (vp_in_nI (by omega) (by omega)) ?_)
    rw [nI_pred, nI_clamp (by omega), nI_clamp (by omega), addm1, nI_pred, hR k (by omega)]
    refine md_sh hw k _ (by omega) (MEc_zi hK (by omega)) (fun j hj => ?_) (fun j q1 q2 => ?_) (fun B' e1 e2 e3 => hQ B' e1 (FM_tr (FM_zi (P := fun c j => c = 125 ∧ j < 40) ⟨rfl, by omega⟩) e2 (fun _ _ z => z) (fun _ _ z => z)) e3)
    · rw [zi_c (by decide)]
      exact hR j hj
    · rw [zi_get]
      by_cases z : j = k + 1
      · rw [if_pos ⟨rfl, z⟩, z]
        rfl
      · rw [if_neg (by omega)]
        exact hB j (by omega) q2
theorem md_div (hg : ip_gk (lg_tbl, vwCl, Gr)) (hw : w ≤ 32) : ∀ (k : Nat) (Rm Qo : Nat → Int32) (T B : zS), k ≤ w → MEc T B → MW T → (∀ j, VC T (X j)) → (∀ j, VC T (Y j)) → (∀ j, VC T (Rm j)) → (∀ j, VC T (Qo j)) → (∀ j, j < w → B.1 123 j = X j) → (∀ j, j ≤ w → B.1 124 j = Y j) → (∀ j, j < w → B.1 129 j = Rm j) → (∀ j, k ≤ j → j < w → B.1 130 j = Qo j) → (∀ B', MEc ((divP X Y w k Rm Qo).2 T).2 B' → FM (fun c j => (c = 125 ∨ c = 126 ∨ c = 129 ∨ c = 130) ∧ j < 40) B B' → (∀ j, j < w → B'.1 130 j = ((divP X Y w k Rm Qo).2 T).1.1 j ∧ B'.1 129 j = ((divP X Y w k Rm Qo).2 T).1.2 j) → Q none B') → zW l Gr (zc n w) 168 M_Mo_divide (d + 4) 42 [some (.ref 105), some (.int (nI k - 1)), none, none, none, none] [] B Q
  | 0, Rm, Qo, T, B, h, hK, hW, vX, vY, vR, vO, hX, hY, hR, hO, hQ => b_Mo_divide_42 (fun _ => b_Mo_divide_225 (hQ B hK FM_rfl (fun j hj => ⟨hO j (by omega) hj, hR j hj⟩))) (fun q => absurd (show (nI 0 - 1 : Int32) < 0 by decide) q)
  | k + 1, Rm, Qo, T, B, h, hK, hW, vX, vY, vR, vO, hX, hY, hR, hO, hQ => by
    rw [nI_pred]
    have o1 := m_run hW (W_tak (D := dvD (X k) Rm) (Y := Y) w 0 (-1) T (VC_dvD (vX k) vR) vY VC_c1)
    have o2 := m_run (MOK_W o1.1) (W_muxs (c := ((takP (dvD (X k) Rm) Y w 0 (-1)).2 T).1.1) (F := fun j => ((takP (dvD (X k) Rm) Y w 0 (-1)).2 T).1.2.getD j (-2)) (D := dvD (X k) Rm) w 0 _ o1.2.1.1 o1.2.1.2 (fun j => VC_m o1.1 (VC_dvD (vX k) vR j)))
    have m2 := MOK_tr o1.1 o2.1
    refine b_Mo_divide_42 (fun q => absurd q (nI_pos (by omega))) (fun _ => b_Mo_divide_46 (md_sh (Rm := Rm) hw w B (Nat.le_refl _) hK hR (fun j q1 q2 => absurd q1 (by omega)) (fun B1 e1 e2 e3 => b_Mo_divide_75 (vp_in_nI (by omega) (by omega)) ?_)))
    rw [nI_clamp (by omega), e2.1 123 k (by omega) (by omega) (by omega), hX k (by omega), show (0 : Int32).toNatClampNeg = 0 from rfl]
    refine md_tak (D := dvD (X k) Rm) (Y := Y) hg hw w 0 (-1) T _ (by omega) (MEc_zi e1 (by omega)) hW VC_c1 (VC_dvD (vX k) vR) vY (fun j hj => ?_) (fun j hj => ?_) (fun B2 f1 f2 f3 => b_Mo_divide_173 (vp_in_nI (by omega) (by omega)) ?_)
    · rw [zi_get]
      unfold dvD
      by_cases z : j = 0
      · rw [if_pos ⟨rfl, z⟩, if_pos z]
      · rw [if_neg (by omega), if_neg z]
        exact e3 j (by omega) hj
    · rw [zi_c (by decide), e2.1 124 j (by omega) (by omega) (by omega)]
      exact hY j hj
    · rw [nI_clamp (by omega)]
      refine md_mux (F := fun j => ((takP (dvD (X k) Rm) Y w 0 (-1)).2 T).1.2.getD j (-2)) (D := dvD (X k) Rm) hg hw w 0 _ _ (by omega) (MEc_zi f1 (by omega)) (MOK_W o1.1) o1.2.1.1 o1.2.1.2 (fun j => VC_m o1.1 (VC_dvD (vX k) vR j)) (fun j hj => ?_) (fun j hj => ?_) (fun B3 g1 g2 g3 => b_Mo_divide_219 ?_)
      · rw [zi_c (by decide)]
        have := f3 j hj
        rw [Nat.zero_add] at this
        exact this
      · rw [zi_c (by decide), f2.1 125 j (by omega) (by omega) (by omega), zi_get]
        unfold dvD
        by_cases z : j = 0
        · rw [if_pos ⟨rfl, z⟩, if_pos z]
        · rw [if_neg (by omega), if_neg z]
          exact e3 j (by omega) (by omega)
      · rw [addm1]
        have Fa : FM (fun c j => (c = 125 ∨ c = 126 ∨ c = 129 ∨ c = 130) ∧ j < 40) B B2 := FM_tr e2 (FM_tr (FM_zi (P := fun c j => c = 125 ∧ j = 0) ⟨rfl, rfl⟩) f2 (P'' := fun c j => (c = 125 ∨ c = 126 ∨ c = 129 ∨ c = 130) ∧ j < 40) (by omega) (by omega)) (by omega) (fun _ _ z => z)
        have Fr : FM (fun c j => (c = 125 ∨ c = 126 ∨ c = 129 ∨ c = 130) ∧ j < 40) B B3 := FM_tr Fa (FM_tr (FM_zi (P := fun c j => c = 130 ∧ j = k) ⟨rfl, rfl⟩) g2 (P'' := fun c j => (c = 125 ∨ c = 126 ∨ c = 129 ∨ c = 130) ∧ j < 40) (by omega) (by omega)) (fun _ _ z => z) (fun _ _ z => z)
        refine md_div hg hw k _ _ _ B3 (by omega) g1 (MOK_W o2.1) (fun j => VC_m m2 (vX j)) (fun j => VC_m m2 (vY j)) o2.2.1 (fun j => ?_) (fun j hj => (Fr.1 123 j (by omega) (by omega) (by omega)).trans (hX j hj)) (fun j hj => (Fr.1 124 j (by omega) (by omega) (by omega)).trans (hY j hj)) (fun j hj => ?_) (fun j q1 q2 => ?_) (fun B' z1 z2 z3 => hQ B' z1 (FM_tr Fr z2 (fun _ _ z => z) (fun _ _ z => z)) z3)
        · by_cases z : j = k
          · simp only [if_pos z]
            exact VC_m o2.1 o1.2.1.1
          · simp only [if_neg z]
            exact VC_m m2 (vO j)
        · have := g3 j hj
          rw [Nat.zero_add] at this
          exact this
        · rw [g2.1 130 j (by omega) (by omega) (by omega), zi_get]
          by_cases z : j = k
          · subst z
            rw [if_pos ⟨rfl, rfl⟩]
            simp only [if_pos]
          · rw [if_neg (by omega)]
            simp only [if_neg z]
            rw [f2.1 130 j (by omega) (by omega) (by omega), zi_c (by decide), e2.1 130 j (by omega) (by omega) (by omega)]
            exact hO j (by omega) q2
theorem md_ini (hw : w ≤ 32) : ∀ (k j0 : Nat) (B : zS), j0 + k = w + 1 → MEc T B → (∀ j, j < j0 → B.1 129 j = -2) → (∀ B', MEc T B' → FM (fun c j => c = 129 ∧ j < 40) B B' → (∀ j, j < w + 1 → B'.1 129 j = -2) → zW l Gr (zc n w) 168 M_Mo_divide (d + 4) 24 [some (.ref 105), none, none, none, none, none] [] B' Q) → zW l Gr (zc n w) 168 M_Mo_divide (d + 4) 2 [some (.ref 105), some (.int (nI j0)), none, none, none, none] [] B Q
  | 0, j0, B, h, hK, hB, hQ => b_Mo_divide_2 (fun _ => hQ B hK FM_rfl (fun j hj => hB j (by omega))) (fun q => absurd ((nI_ltI (by omega) (by omega)).mpr (by omega)) q)
  | k + 1, j0, B, h, hK, hB, hQ => by
    refine b_Mo_divide_2 (fun q => absurd q (nI_nlt (by omega) (by omega))) (fun _ => b_Mo_divide_10 (vp_in_nI (by omega) (by omega)) ?_)
    rw [nI_clamp (by omega), show nI j0 + Int32.ofInt 1 = nI (j0 + 1) from nI_add j0 1]
    refine md_ini hw k (j0 + 1) _ (by omega) (MEc_zi hK (by omega)) (fun j hj => ?_) (fun B' e1 e2 e3 => hQ B' e1 (FM_tr (FM_zi (P := fun c j => c = 129 ∧ j < 40) ⟨rfl, by omega⟩) e2 (fun _ _ z => z) (fun _ _ z => z)) e3)
    rw [zi_get]
    by_cases z : j = j0
    · rw [if_pos ⟨rfl, z⟩]
    · rw [if_neg (by omega)]
      exact hB j (by omega)
theorem wm_divide (hg : ip_gk (lg_tbl, vwCl, Gr)) (hw : w ≤ 32) (hK : MEc T B) (hW : MW T) (vX : ∀ j, VC T (X j)) (vY : ∀ j, VC T (Y j)) (hX : ∀ j, j < w → B.1 123 j = X j) (hY : ∀ j, j < w → B.1 124 j = Y j) : zMv l Gr (zc n w) 168 M_Mo_divide (d + 4) [.ref 105] B (fun B' => MEc ((divideP X Y w).2 T).2 B' ∧ FM (fun c j => (c = 124 ∨ c = 125 ∨ c = 126 ∨ c = 129 ∨ c = 130) ∧ j < 40) B B' ∧ ∀ j, j < w → B'.1 130 j = ((divideP X Y w).2 T).1.1 j ∧ B'.1 129 j = ((divideP X Y w).2 T).1.2 j) := by
  refine e_Mo_divide (b_Mo_divide_0 (md_ini hw (w + 1) 0 B (by omega) hK (fun j hj => absurd hj (by omega)) (fun B1 e1 e2 e3 => b_Mo_divide_24 (vp_in_nI (by omega) (by omega)) ?_)))
  rw [nI_clamp (by omega)]
  refine md_div (X := X) (Y := ext2 w Y) hg hw w (fun _ => -2) (fun _ => -2) T _ (Nat.le_refl _) (MEc_zi e1 (by omega)) hW vX (VC_ext vY) (fun _ => VC_c2) (fun _ => VC_c2) (fun j hj => ?_) (fun j hj => ?_) (fun j hj => ?_) (fun j q1 q2 => absurd q1 (by omega)) (fun B' z1 z2 z3 => ⟨rfl, z1, FM_tr e2 (FM_tr (FM_zi (P := fun c j => c = 124 ∧ j = w) ⟨rfl, rfl⟩) z2 (P'' := fun c j => (c = 124 ∨ c = 125 ∨ c = 126 ∨ c = 129 ∨ c = 130) ∧ j < 40) (by omega) (by omega)) (by omega) (fun _ _ z => z), z3⟩)
  · rw [zi_c (by decide), e2.1 123 j (by omega) (by omega) (by omega)]
    exact hX j hj
  · rw [zi_get]
    unfold ext2
    by_cases z : j = w
    · rw [if_pos ⟨rfl, z⟩, if_neg (by omega)]
    · rw [if_neg (by omega), if_pos (by omega), e2.1 124 j (by omega) (by omega) (by omega)]
      exact hY j (by omega)
  · rw [zi_c (by decide)]
    exact e3 j (by omega)
/-! the class's ends -/
theorem cp57 {c0 : Nat} (hK : KEc S A) (hO : ∀ j, j < w → A.1 c0 j = O j) : KEc S (zI A 57 (va_cpy (A.1 c0) (A.1 57) 0 a w)) ∧ FK (fun c j => c = 57 ∧ a ≤ j ∧ j < a + w) A (zI A 57 (va_cpy (A.1 c0) (A.1 57) 0 a w)) ∧ ∀ j, j < w → (zI A 57 (va_cpy (A.1 c0) (A.1 57) 0 a w)).1 57 (a + j) = O j := by
  refine ⟨KEc_zI hK (by omega), FK_zI (fun j hj => ?_), fun j hj => ?_⟩
  · show (if a ≤ j ∧ j < a + w then _ else A.1 57 j) = _
    rw [if_neg (by omega)]
  · show (if a ≤ a + j ∧ a + j < a + w then A.1 c0 (0 + (a + j - a)) else _) = _
    rw [if_pos (by omega), show 0 + (a + j - a) = j by omega]
    exact hO j hj
theorem fl_84 (hw : w ≤ 32) (v : Int32) {Q : Option Value → zS → Prop} (k : Q none (zfill S 52 v w)) : ∀ (j i : Nat), i + j = w → zW l Gr (zc n w) 168 M_Arrays_fill_78e d 5 [some (.ref 84), some (.int v), some (.int (nI i)), some (.int (nI w))] [] (zfill S 52 v i) Q
  | 0, i, h => b_Arrays_fill_78e_r84_5 (fun _ => b_Arrays_fill_78e_r84_20 (by rw [show i = w by omega]; exact k)) (fun q => absurd (nI_le (a := w) (b := i) (by omega) (by omega)) q)
  | j + 1, i, h => b_Arrays_fill_78e_r84_5 (fun q => absurd q (nI_ge (a := i) (b := w) (by omega) (by omega))) (fun _ => b_Arrays_fill_78e_r84_10 (vp_in_nI (by omega) (by omega)) (by
      rw [nI_clamp (by omega), zfill_s, show nI i + Int32.ofInt 1 = nI (i + 1) from nI_add i 1]
      exact fl_84 hw v k j (i + 1) (by omega)))
theorem m_fill_84 (hw : w ≤ 32) (v : Int32) : zMv l Gr (zc n w) 168 M_Arrays_fill_78e d [.ref 84, .int v] S (fun S' => S' = zfill S 52 v w) :=
  e_Arrays_fill_78e_r84 (b_Arrays_fill_78e_r84_0 (by
    have := fl_84 (l := l) (Gr := Gr) (n := n) (w := w) (d := d) (S := S) hw v (Q := fun v' S' => v' = none ∧ S' = zfill S 52 v w) ⟨rfl, rfl⟩ w 0 (by omega)
    rw [zfill_0] at this
    exact this))
theorem w_div42 (hg : ip_gk (lg_tbl, vwCl, Gr)) (hw : w ≤ 32) (ha : a + w ≤ 9682 * w) (hb : b + w ≤ 9682 * w) {x4 : Int32} (hK : KEc S A) (hG : GK S) (hX : ∀ j, j < w → A.1 57 (a + j) = X j) (hY : ∀ j, j < w → A.1 57 (b + j) = Y j) (hQ : ∀ A', KEc ((divideP X Y w).1 S).2 A' → FK (fun c j => ((51 ≤ c ∧ c ≤ 54) ∧ j < w + 1) ∨ (c = 57 ∧ a ≤ j ∧ j < a + w)) A A' → (∀ j, j < w → A'.1 57 (a + j) = (if x4 = 0 then ((divideP X Y w).1 S).1.1 j else ((divideP X Y w).1 S).1.2 j)) → Q none A') : zW l Gr (zc n w) 168 M_Logic_divide (d + 4) 42 [some (.ref 82), some (.ref 89), some (.int (nI a)), some (.int (nI b)), some (.int x4), none, none, none] [] A Q := by
  have cw : (nI w).toNatClampNeg = w := nI_clamp (by omega)
  have ca : (nI a).toNatClampNeg = a := nI_clamp (by omega)
  refine b_Logic_divide_r89_42 hg (m_fill_84 hw (-2)) (fun A0 e0 => b_Logic_divide_r89_51 ?_)
  subst e0
  have K0 : KEc S (zfill A 52 (-2) w) := KEc_zI hK (by omega)
  have F0 : FK (fun c j => c = 52 ∧ j < w) A (zfill A 52 (-2) w) := FK_zI (fun j hj => by rw [if_neg (by omega)])
  refine kd_div (X := X) (Y := Y) hg hw ha hb w (fun _ => -2) (fun _ => -2) S _ (Nat.le_refl _) K0 hG (fun j hj => (F0.1 57 (a + j) (by omega) (by omega) (by omega)).trans (hX j hj)) (fun j hj => (F0.1 57 (b + j) (by omega) (by omega) (by omega)).trans (hY j hj)) (fun j hj => ?_) (fun j q1 q2 => absurd q1 (by omega)) (fun A1 e1 e2 e3 => b_Logic_divide_r89_161 (fun z => b_Logic_divide_r89_173 (b_Logic_divide_r89_177 (nI_pos (by omega)) (nI_pos (by omega)) (by rw [cw]; exact Nat.le_of_eq (Nat.zero_add w)) (by rw [cw, ca]; exact ha) ?_)) (fun z => b_Logic_divide_r89_166 (b_Logic_divide_r89_177_1 (nI_pos (by omega)) (nI_pos (by omega)) (by rw [cw]; exact Nat.le_of_eq (Nat.zero_add w)) (by rw [cw, ca]; exact ha) ?_)))
  · show (if 52 = 52 then (fun k => if k < w then (-2 : Int32) else A.1 52 k) else A.1 52) j = -2
    rw [if_pos rfl]
    simp only [if_pos hj]
  · rw [cw, ca, show (0 : Int32).toNatClampNeg = 0 from rfl]
    obtain ⟨g1, g2, g3⟩ := cp57 (w := w) (a := a) (c0 := 51) e1 (fun j hj => (e3 j hj).1)
    refine hQ _ g1 (FK_tr F0 (FK_tr e2 g2 (P'' := fun c j => ((51 ≤ c ∧ c ≤ 54) ∧ j < w + 1) ∨ (c = 57 ∧ a ≤ j ∧ j < a + w)) (by omega) (by omega)) (by omega) (fun _ _ z => z)) (fun j hj => ?_)
    rw [if_pos z]
    exact g3 j hj
  · rw [cw, ca, show (0 : Int32).toNatClampNeg = 0 from rfl]
    obtain ⟨g1, g2, g3⟩ := cp57 (w := w) (a := a) (c0 := 52) e1 (fun j hj => (e3 j hj).2)
    refine hQ _ g1 (FK_tr F0 (FK_tr e2 g2 (P'' := fun c j => ((51 ≤ c ∧ c ≤ 54) ∧ j < w + 1) ∨ (c = 57 ∧ a ≤ j ∧ j < a + w)) (by omega) (by omega)) (by omega) (fun _ _ z => z)) (fun j hj => ?_)
    rw [if_neg z]
    exact g3 j hj
theorem w_tim38 (hg : ip_gk (lg_tbl, vwCl, Gr)) (hw : w ≤ 32) (hw1 : 1 ≤ w) (ha : a + w ≤ 9682 * w) (hb : b + w ≤ 9682 * w) (hK : KEc S A) (hG : GK S) (hX : ∀ j, j < w → A.1 57 (a + j) = X j) (hY : ∀ j, j < w → A.1 57 (b + j) = Y j) (hQ : ∀ A', KEc ((timesP X Y w).1 S).2 A' → FK (fun c j => ((51 ≤ c ∧ c ≤ 54) ∧ j < w + 1) ∨ (c = 57 ∧ a ≤ j ∧ j < a + w)) A A' → (∀ j, j < w → A'.1 57 (a + j) = ((timesP X Y w).1 S).1 j) → Q none A') : zW l Gr (zc n w) 168 M_Logic_times (d + 4) 38 [some (.ref 82), some (.ref 89), some (.int (nI a)), some (.int (nI b)), none, none] [] A Q := by
  have cw : (nI w).toNatClampNeg = w := nI_clamp (by omega)
  have ca : (nI a).toNatClampNeg = a := nI_clamp (by omega)
  refine b_Logic_times_r89_38 (kt_51 (X := X) (Y := Y) hg hw ha hb w 0 S A (by omega) hK hG hX hY (fun A1 e1 e2 e3 => b_Logic_times_r89_79 (kt_tim (X := X) (Y := Y) hg hw ha hb (w - 1) 1 (fun j => ((andsP X (Y 0) w 0).1 S).1.getD j (-2)) _ A1 (by omega) e1 (k_run (BU_ands _ _) hG).1 (fun j hj => (e2.1 57 (a + j) (by omega) (by omega) (by omega)).trans (hX j hj)) (fun j hj => (e2.1 57 (b + j) (by omega) (by omega) (by omega)).trans (hY j hj)) (fun j hj => ?_) (fun A2 f1 f2 f3 => b_Logic_times_r89_168 (nI_pos (by omega)) (nI_pos (by omega)) (by rw [cw]; exact Nat.le_of_eq (Nat.zero_add w)) (by rw [cw, ca]; exact ha) ?_))))
  · have := e3 j hj
    rw [Nat.zero_add] at this
    exact this
  · rw [cw, ca, show (0 : Int32).toNatClampNeg = 0 from rfl]
    obtain ⟨g1, g2, g3⟩ := cp57 (w := w) (a := a) (c0 := 51) f1 f3
    exact hQ _ g1 (FK_tr e2 (FK_tr f2 g2 (P'' := fun c j => ((51 ≤ c ∧ c ≤ 54) ∧ j < w + 1) ∨ (c = 57 ∧ a ≤ j ∧ j < a + w)) (by omega) (by omega)) (by omega) (fun _ _ z => z)) g3
end DIX
