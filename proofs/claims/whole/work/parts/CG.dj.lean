/-! divide: the class's loop, and the reference -/
theorem addm1 (x : Int32) : x + Int32.ofInt (-1) = x - 1 := by
  rw [Int32.sub_eq_add_neg]
  rfl
section DIW
variable {l : Launch} {Gr : zG} {n w : Nat} {d : Nat} {S A T B : zS} {c x y : Int32} {X Y D F Rm Qo : Nat → Int32} {Q : Option Value → zS → Prop} {a b m i : Nat} {P : Nat → Nat → Prop}
theorem KEc_zI {c0 : Nat} {f : Nat → Int32} (h : KEc S A) (q : ¬ (24 ≤ c0 ∧ c0 ≤ 28)) : KEc S (zI A c0 f) := ⟨fun k q1 q2 => by rw [zI_c (by omega)]; exact h.1 k q1 q2, fun c k q1 q2 => by rw [zI_c (by omega)]; exact h.2 c k q1 q2⟩
theorem FK_zI {c0 : Nat} {f : Nat → Int32} (h : ∀ j, ¬ P c0 j → f j = A.1 c0 j) : FK P A (zI A c0 f) := ⟨fun c j _ _ z => by
  by_cases e : c = c0
  · subst e
    show (if c = c then f else A.1 c) j = _
    rw [if_pos rfl]
    exact h j z
  · rw [zI_c e], fun _ _ => rfl⟩
theorem d54 (hK : KEc S A) (hR : ∀ j, j < w → A.1 52 j = Rm j) : KEc S (zI (zi A 54 0 x) 54 (va_cpy ((zi A 54 0 x).1 52) ((zi A 54 0 x).1 54) 0 1 w)) ∧ FK (fun c j => c = 54 ∧ j < w + 1) A (zI (zi A 54 0 x) 54 (va_cpy ((zi A 54 0 x).1 52) ((zi A 54 0 x).1 54) 0 1 w)) ∧ ∀ j, j ≤ w → (zI (zi A 54 0 x) 54 (va_cpy ((zi A 54 0 x).1 52) ((zi A 54 0 x).1 54) 0 1 w)).1 54 j = dvD x Rm j := by
  refine ⟨KEc_zI (KEc_zi hK (by omega)) (by omega), FK_tr (FK_zi (P := fun c j => c = 54 ∧ j < w + 1) ⟨rfl, by omega⟩) (FK_zI (P := fun c j => c = 54 ∧ j < w + 1) (fun j hj => ?_)) (fun _ _ z => z) (fun _ _ z => z), fun j hj => ?_⟩
  · show (if 1 ≤ j ∧ j < 1 + w then _ else (zi A 54 0 x).1 54 j) = _
    rw [if_neg (by omega)]
  · show (if 1 ≤ j ∧ j < 1 + w then (zi A 54 0 x).1 52 (0 + (j - 1)) else (zi A 54 0 x).1 54 j) = _
    unfold dvD
    by_cases z : j = 0
    · rw [if_neg (by omega), if_pos z, z]
      exact zi_v
    · rw [if_pos (by omega), if_neg z, zi_c (by decide), Nat.zero_add]
      exact hR (j - 1) (by omega)
theorem kd_div (hg : ip_gk (lg_tbl, vwCl, Gr)) (hw : w ≤ 32) (ha : a + w ≤ 9682 * w) (hb : b + w ≤ 9682 * w) {x4 : Int32} : ∀ (k : Nat) (Rm Qo : Nat → Int32) (S A : zS), k ≤ w → KEc S A → GK S → (∀ j, j < w → A.1 57 (a + j) = X j) → (∀ j, j < w → A.1 57 (b + j) = Y j) → (∀ j, j < w → A.1 52 j = Rm j) → (∀ j, k ≤ j → j < w → A.1 51 j = Qo j) → (∀ A', KEc ((divP X (ext2 w Y) w k Rm Qo).1 S).2 A' → FK (fun c j => (51 ≤ c ∧ c ≤ 54) ∧ j < w + 1) A A' → (∀ j, j < w → A'.1 51 j = ((divP X (ext2 w Y) w k Rm Qo).1 S).1.1 j ∧ A'.1 52 j = ((divP X (ext2 w Y) w k Rm Qo).1 S).1.2 j) → zW l Gr (zc n w) 168 M_Logic_divide (d + 4) 161 [some (.ref 82), some (.ref 89), some (.int (nI a)), none, some (.int x4), none, none, none] [] A' Q) → zW l Gr (zc n w) 168 M_Logic_divide (d + 4) 59 [some (.ref 82), some (.ref 89), some (.int (nI a)), some (.int (nI b)), some (.int x4), some (.int (nI k - 1)), none, none] [] A Q
  | 0, Rm, Qo, S, A, h, hK, hG, hX, hY, hR, hO, hQ => b_Logic_divide_r89_59 (fun _ => hQ A hK FK_rfl (fun j hj => ⟨hO j (by omega) hj, hR j hj⟩)) (fun q => absurd (show (nI 0 - 1 : Int32) < 0 by decide) q)
  | k + 1, Rm, Qo, S, A, h, hK, hG, hX, hY, hR, hO, hQ => by
    rw [nI_pred]
    obtain ⟨A1, eA⟩ : ∃ A1, A1 = zI (zi A 54 0 (X k)) 54 (va_cpy ((zi A 54 0 (X k)).1 52) ((zi A 54 0 (X k)).1 54) 0 1 w) := ⟨_, rfl⟩
    obtain ⟨K1, F1, D1⟩ := d54 (x := X k) hK hR
    rw [← eA] at K1 F1 D1
    have cw : (nI w).toNatClampNeg = w := nI_clamp (by omega)
    refine b_Logic_divide_r89_59 (fun q => absurd q (nI_pos (by omega))) (fun _ => b_Logic_divide_r89_64 (R := fun v A' => v = ((takP (dvD (X k) Rm) (ext2 w Y) w 0 (-1)).1 S).1.1 ∧ KEc ((takP (dvD (X k) Rm) (ext2 w Y) w 0 (-1)).1 S).2 A' ∧ FK (fun c j' => c = 53 ∧ j' < w) A1 A' ∧ ∀ j', j' < w → A'.1 53 j' = ((takP (dvD (X k) Rm) (ext2 w Y) w 0 (-1)).1 S).1.2.getD j' (-2)) hg (by rw [nI_add]; exact vp_in_nI (by omega) (by omega)) (vp_in_nI (n := 0) (by omega) (by omega)) (nI_pos (by omega)) (by rw [cw]; exact Nat.le_of_eq (Nat.zero_add w)) (by rw [cw]; exact Nat.le_of_eq (Nat.add_comm 1 w)) ?_ (fun v A2 h2 => ?_))
    · rw [show A.1 57 ((nI a + nI k).toNatClampNeg) = X k by rw [nI_add, nI_clamp (by omega)]; exact hX k (by omega), cw, show (0 : Int32).toNatClampNeg = 0 from rfl, show (1 : Int32).toNatClampNeg = 1 from rfl, ← eA]
      exact w_takeAway hg hw hb K1 hG D1 (fun j hj => (F1.1 57 (b + j) (by omega) (by omega) (by omega)).trans (hY j hj))
    · obtain ⟨ev, K2, F2, r2⟩ := h2
      subst ev
      have G2 := (k_run (BU_tak (D := dvD (X k) Rm) (Y := ext2 w Y) w 0 (-1)) hG).1
      refine b_Logic_divide_r89_99 (vp_in_nI (by omega) (by omega)) ?_
      rw [nI_clamp (by omega)]
      refine kd_mux (F := fun j => ((takP (dvD (X k) Rm) (ext2 w Y) w 0 (-1)).1 S).1.2.getD j (-2)) (D := dvD (X k) Rm) hg hw w 0 _ _ (by omega) (KEc_zi K2 (by omega)) G2 (fun j hj => ?_) (fun j hj => ?_) (fun A3 e1 e2 e3 => b_Logic_divide_r89_155 ?_)
      · rw [zi_c (by decide)]
        exact r2 j hj
      · rw [zi_c (by decide), F2.1 54 j (by omega) (by omega) (by omega)]
        exact D1 j (by omega)
      · rw [addm1]
        have F : FK (fun c j => (51 ≤ c ∧ c ≤ 54) ∧ j < w + 1) A A3 := FK_tr F1 (FK_tr F2 (FK_tr (FK_zi (P := fun c j => c = 51 ∧ j = k) ⟨rfl, rfl⟩) e2 (P'' := fun c j => (51 ≤ c ∧ c ≤ 54) ∧ j < w + 1) (by omega) (by omega)) (P'' := fun c j => (51 ≤ c ∧ c ≤ 54) ∧ j < w + 1) (by omega) (fun _ _ z => z)) (by omega) (fun _ _ z => z)
        refine kd_div hg hw ha hb k _ _ _ A3 (by omega) e1 (k_run (BU_muxs _ _) G2).1 (fun j hj => (F.1 57 (a + j) (by omega) (by omega) (by omega)).trans (hX j hj)) (fun j hj => (F.1 57 (b + j) (by omega) (by omega) (by omega)).trans (hY j hj)) (fun j hj => ?_) (fun j q1 q2 => ?_) (fun A' z1 z2 z3 => hQ A' z1 (FK_tr F z2 (fun _ _ z => z) (fun _ _ z => z)) z3)
        · have := e3 j hj
          rw [Nat.zero_add] at this
          exact this
        · rw [e2.1 51 j (by omega) (by omega) (by omega), zi_get]
          by_cases z : j = k
          · subst z
            rw [if_pos ⟨rfl, rfl⟩]
            simp only [if_pos]
          · rw [if_neg (by omega)]
            simp only [if_neg z]
            rw [F2.1 51 j (by omega) (by omega) (by omega), F1.1 51 j (by omega) (by omega) (by omega)]
            exact hO j (by omega) q2
/-! the reference -/
theorem md_tak (hg : ip_gk (lg_tbl, vwCl, Gr)) (hw : w ≤ 32) : ∀ (k j : Nat) (c : Int32) (T B : zS), j + k = w → MEc T B → MW T → VC T c → (∀ j, VC T (D j)) → (∀ j, VC T (Y j)) → (∀ j, j ≤ w → B.1 125 j = D j) → (∀ j, j ≤ w → B.1 124 j = Y j) → (∀ B', MEc ((takP D Y k j c).2 T).2 B' → FM (fun c j' => c = 126 ∧ j ≤ j' ∧ j' < w) B B' → (∀ j', j' < k → B'.1 126 (j + j') = ((takP D Y k j c).2 T).1.2.getD j' (-2)) → zW l Gr (zc n w) 168 M_Mo_divide (d + 4) 173 [some (.ref 105), some (.int (nI i)), some (.int ((takP D Y k j c).2 T).1.1), none, none, none] [] B' Q) → zW l Gr (zc n w) 168 M_Mo_divide (d + 4) 91 [some (.ref 105), some (.int (nI i)), some (.int c), some (.int (nI j)), none, none] [] B Q
  | 0, j, c, T, B, h, hK, hW, hc, vD, vY, hD, hY, hQ => by
    have o1 := m_op (b := false) hW (VC_f (vY j)) hc
    have o2 := m_op (b := false) (MOK_W o1.1) (VC_m o1.1 (vD j)) (VC_m o1.1 hc)
    have o3 := m_op (b := true) (MOK_W o2.1) o2.2.1 (VC_m o2.1 o1.2.1)
    have m3 := MOK_tr o1.1 (MOK_tr o2.1 o3.1)
    have inA : vp_in (nI j) 40 := vp_in_nI (by omega) (by omega)
    refine b_Mo_divide_91 (fun q => absurd q (nI_nlt (by omega) (by omega))) (fun _ => b_Mo_divide_99 hg inA (by
      rw [nI_clamp (by omega), hY j (by omega)]
      exact wm_xorK (d := d + 1) hg hK hW (VC_f (vY j)) hc) (fun t B1 h1 => ?_))
    obtain ⟨et, K1, F1⟩ := h1
    subst et
    refine b_Mo_divide_112 (fun _ => b_Mo_divide_140 hg inA (by
      rw [nI_clamp (by omega), F1.1 125 j (by omega) (by omega), hD j (by omega)]
      exact wm_xorK (d := d + 1) hg K1 (MOK_W o1.1) (VC_m o1.1 (vD j)) (VC_m o1.1 hc)) (fun u B2 h2 => ?_)) (fun q => absurd (nI_le (by omega) (by omega)) q)
    obtain ⟨eu, K2, F2⟩ := h2
    subst eu
    refine b_Mo_divide_151 hg (wm_andK (d := d + 1) hg K2 (MOK_W o2.1) o2.2.1 (VC_m o2.1 o1.2.1)) (fun v B3 h3 => ?_)
    obtain ⟨ev, K3, F3⟩ := h3
    subst ev
    refine b_Mo_divide_163 hg (wm_xorK (d := d + 1) hg K3 (MOK_W o3.1) (VC_m m3 hc) o3.2.1) (fun c' B4 h4 => b_Mo_divide_166 ?_)
    obtain ⟨ec, K4, F4⟩ := h4
    subst ec
    refine b_Mo_divide_91 (fun _ => hQ B4 K4 (FM_x (KXm_tr F1 (KXm_tr F2 (KXm_tr F3 F4)))) (fun j' hj => absurd hj (by omega))) (fun q => absurd ?_ q)
    rw [show nI j + Int32.ofInt 1 = nI (j + 1) from nI_add j 1]
    exact (nI_ltI (by omega) (by omega)).mpr (by omega)
  | k + 1, j, c, T, B, h, hK, hW, hc, vD, vY, hD, hY, hQ => by
    have o1 := m_op (b := false) hW (VC_f (vY j)) hc
    have o2 := m_op (b := false) (MOK_W o1.1) (VC_m o1.1 (vD j)) o1.2.1
    have m2 := MOK_tr o1.1 o2.1
    have o3 := m_op (b := false) (MOK_W o2.1) (VC_m m2 (vD j)) (VC_m m2 hc)
    have o4 := m_op (b := true) (MOK_W o3.1) o3.2.1 (VC_m o3.1 (VC_m o2.1 o1.2.1))
    have m4 := MOK_tr m2 (MOK_tr o3.1 o4.1)
    have o5 := m_op (b := false) (MOK_W o4.1) (VC_m m4 hc) o4.2.1
    have m5 := MOK_tr m4 o5.1
    have inA : vp_in (nI j) 40 := vp_in_nI (by omega) (by omega)
    refine b_Mo_divide_91 (fun q => absurd q (nI_nlt (by omega) (by omega))) (fun _ => b_Mo_divide_99 hg inA (by
      rw [nI_clamp (by omega), hY j (by omega)]
      exact wm_xorK (d := d + 1) hg hK hW (VC_f (vY j)) hc) (fun t B1 h1 => ?_))
    obtain ⟨et, K1, F1⟩ := h1
    subst et
    refine b_Mo_divide_112 (fun q => absurd q (nI_ge (by omega) (by omega))) (fun _ => b_Mo_divide_122 hg inA (by
      rw [nI_clamp (by omega), F1.1 125 j (by omega) (by omega), hD j (by omega)]
      exact wm_xorK (d := d + 1) hg K1 (MOK_W o1.1) (VC_m o1.1 (vD j)) o1.2.1) (fun o B2 h2 => b_Mo_divide_139 inA ?_))
    obtain ⟨eo, K2, F2⟩ := h2
    subst eo
    rw [nI_clamp (by omega)]
    refine b_Mo_divide_140 hg inA (by
      rw [nI_clamp (by omega), zi_c (by decide), F2.1 125 j (by omega) (by omega), F1.1 125 j (by omega) (by omega), hD j (by omega)]
      exact wm_xorK (d := d + 1) hg (MEc_zi K2 (by omega)) (MOK_W o2.1) (VC_m m2 (vD j)) (VC_m m2 hc)) (fun u B3 h3 => ?_)
    obtain ⟨eu, K3, F3⟩ := h3
    subst eu
    refine b_Mo_divide_151 hg (wm_andK (d := d + 1) hg K3 (MOK_W o3.1) o3.2.1 (VC_m o3.1 (VC_m o2.1 o1.2.1))) (fun v B4 h4 => ?_)
    obtain ⟨ev, K4, F4⟩ := h4
    subst ev
    refine b_Mo_divide_163 hg (wm_xorK (d := d + 1) hg K4 (MOK_W o4.1) (VC_m m4 hc) o4.2.1) (fun c' B5 h5 => b_Mo_divide_166 ?_)
    obtain ⟨ec, K5, F5⟩ := h5
    subst ec
    rw [show nI j + Int32.ofInt 1 = nI (j + 1) from nI_add j 1]
    have f : FM (fun c' j' => c' = 126 ∧ j' = j) B B5 := FM_tr (FM_x (P := fun _ _ => False) (KXm_tr F1 F2)) (FM_tr (FM_zi (P := fun c' j' => c' = 126 ∧ j' = j) ⟨rfl, rfl⟩) (FM_x (P := fun _ _ => False) (KXm_tr F3 (KXm_tr F4 F5))) (P'' := fun c' j' => c' = 126 ∧ j' = j) (fun _ _ q => q) (fun _ _ q => q.elim)) (fun _ _ q => q.elim) (fun _ _ q => q)
    have ev : B5.1 126 j = (mOp false (mOp false T (Y j ^^^ 1) c).2 (D j) (mOp false T (Y j ^^^ 1) c).1).1 := by
      rw [(KXm_tr F3 (KXm_tr F4 F5)).1 126 j (by omega) (by omega)]
      exact zi_v
    refine md_tak hg hw k (j + 1) _ _ _ (by omega) K5 (MOK_W o5.1) o5.2.1 (fun j => VC_m m5 (vD j)) (fun j => VC_m m5 (vY j)) (fun j' hj => (f.1 125 j' (by omega) (by omega) (by omega)).trans (hD j' hj)) (fun j' hj => (f.1 124 j' (by omega) (by omega) (by omega)).trans (hY j' hj)) (fun B' e1 e2 e3 => hQ B' e1 ?_ (fun j' hj => ?_))
    · exact FM_tr f e2 (by omega) (by omega)
    · cases j' with
      | zero => exact (e2.1 126 (j + 0) (by omega) (by omega) (by omega)).trans ev
      | succ j' => exact (congrArg (B'.1 126) (by omega)).trans (e3 j' (by omega))
theorem md_mux (hg : ip_gk (lg_tbl, vwCl, Gr)) (hw : w ≤ 32) : ∀ (k j : Nat) (T B : zS), j + k = w → MEc T B → MW T → VC T c → (∀ j, VC T (F j)) → (∀ j, VC T (D j)) → (∀ j, j < w → B.1 126 j = F j) → (∀ j, j < w → B.1 125 j = D j) → (∀ B', MEc ((muxsP c F D k j).2 T).2 B' → FM (fun c j' => c = 129 ∧ j ≤ j' ∧ j' < w) B B' → (∀ j', j' < k → B'.1 129 (j + j') = ((muxsP c F D k j).2 T).1.getD j' (-2)) → zW l Gr (zc n w) 168 M_Mo_divide (d + 4) 219 [some (.ref 105), some (.int (nI i)), none, none, none, none] [] B' Q) → zW l Gr (zc n w) 168 M_Mo_divide (d + 4) 182 [some (.ref 105), some (.int (nI i)), some (.int c), some (.int (nI j)), none, none] [] B Q
  | 0, j, T, B, h, hK, hW, hc, vF, vD, hF, hD, hQ => b_Mo_divide_182 (fun _ => hQ B hK FM_rfl (fun j' hj => absurd hj (by omega))) (fun q => absurd (nI_le (by omega) (by omega)) q)
  | k + 1, j, T, B, h, hK, hW, hc, vF, vD, hF, hD, hQ => by
    have o1 := m_run hW (W_mux hc (vF j) (vD j))
    refine b_Mo_divide_182 (fun q => absurd q (nI_ge (by omega) (by omega))) (fun _ => b_Mo_divide_190 hg (vp_in_nI (by omega) (by omega)) (by
      rw [nI_clamp (by omega), hF j (by omega), hD j (by omega)]
      exact wm_muxK (d := d) hg hK hW hc (vF j) (vD j)) (fun v B1 h1 => b_Mo_divide_212 (vp_in_nI (by omega) (by omega)) ?_))
    obtain ⟨ev, K1, F1⟩ := h1
    subst ev
    rw [nI_clamp (by omega), show nI j + Int32.ofInt 1 = nI (j + 1) from nI_add j 1]
    refine md_mux hg hw k (j + 1) _ _ (by omega) (MEc_zi K1 (by omega)) (MOK_W o1.1) (VC_m o1.1 hc) (fun j => VC_m o1.1 (vF j)) (fun j => VC_m o1.1 (vD j)) (fun j' hj => ?_) (fun j' hj => ?_) (fun B' e1 e2 e3 => hQ B' e1 ?_ (fun j' hj => ?_))
    · rw [zi_c (by decide), F1.1 126 j' (by omega) (by omega)]
      exact hF j' hj
    · rw [zi_c (by decide), F1.1 125 j' (by omega) (by omega)]
      exact hD j' hj
    · exact FM_tr (FM_x (P := fun _ _ => False) F1) (FM_tr (FM_zi (P := fun c j' => c = 129 ∧ j' = j) ⟨rfl, rfl⟩) e2 (P'' := fun c j' => c = 129 ∧ j ≤ j' ∧ j' < w) (by omega) (by omega)) (fun _ _ z => z.elim) (fun _ _ z => z)
    · cases j' with
      | zero => exact (e2.1 129 (j + 0) (by omega) (by omega) (by omega)).trans zi_v
      | succ j' => exact (congrArg (B'.1 129) (by omega)).trans (e3 j' (by omega))
end DIW
