/-! << and >> -/
theorem sb_c (a b : Int32) : a - (a + b) = -b := by
  rw [Int32.sub_eq_add_neg, Int32.neg_add, Int32.sub_eq_add_neg, ← Int32.add_assoc, Int32.add_right_neg, Int32.zero_add]
theorem ng_k : ∀ k : Fin 33, 0 < k.val → -(nI k.val) < 0 := by decide
theorem nI_sneg {j v : Nat} (h : j < v) (hv : v ≤ 32) : nI j - nI v < 0 := by
  obtain ⟨k, rfl⟩ : ∃ k, v = j + k := ⟨v - j, by omega⟩
  rw [← nI_add, sb_c]
  exact ng_k ⟨k, by omega⟩ (by show 0 < k; omega)
theorem nI_sng (j v : Nat) : nI j - -(nI v) = nI (j + v) := by
  rw [Int32.sub_eq_add_neg, Int32.neg_neg, nI_add]
def shfF (w o v : Nat) (X : Nat → Int32) : Nat → Int32 := fun j => if o = 12 then (if j < v then -2 else X (j - v)) else (if j + v < w then X (j + v) else -2)
section SHB
variable {l : Launch} {Gr : zG} {n w : Nat} {d : Nat} {S A A0 T B B0 : zS} {x y x1 x2 x4 : Int32} {X Y F : Nat → Int32} {Q : Option Value → zS → Prop} {a b m i o r v q j : Nat}
theorem cm_w (hw : w ≤ 32) (hv : v < 2 ^ 62) : lg_cmp (Int64.ofNat v) ((nI w : Int32)).toInt64 < 0 ↔ v < w := by
  rw [lg_cmp_lt, show ((nI w : Int32)).toInt64 = Int64.ofNat w from i64_n (by omega)]
  exact i64_lt (by omega) (by omega)
theorem nvb_62 {xb : Nat → Bool} (hw : w ≤ 32) : nvb xb w 0 < 2 ^ 62 := Nat.lt_of_lt_of_le (nvb_lt w 0) (Nat.pow_le_pow_right (by omega) (by omega))
theorem SHf_l (hw : w ≤ 32) (hv : v < w) : SHf w (nI v) X (shfF w 12 v X) := fun j hj => by
  unfold shfF
  rw [if_pos rfl]
  by_cases z : j < v
  · rw [if_pos z]
    exact Or.inl ⟨Or.inl (nI_sneg z (by omega)), rfl⟩
  · rw [if_neg z]
    refine Or.inr ⟨j - v, by omega, ?_, rfl⟩
    have := nI_subb (j - v) v
    rw [show j - v + v = j by omega] at this
    exact this
theorem SHf_r (hw : w ≤ 32) (hv : v < w) (ho : ¬ o = 12) : SHf w (-(nI v)) X (shfF w o v X) := fun j hj => by
  unfold shfF
  rw [if_neg ho, nI_sng]
  by_cases z : j + v < w
  · rw [if_pos z]
    exact Or.inr ⟨j + v, z, rfl, rfl⟩
  · rw [if_neg z]
    exact Or.inl ⟨Or.inr (nI_nlt (by omega) (by omega)), rfl⟩
theorem w_bShift (hg : ip_gk (lg_tbl, vwCl, Gr)) (hw : w ≤ 32) (hi : i < 4000) (h4 : A.1 4 i = 49 ↔ o = 12) (ha : a + w + w ≤ 9682 * w) (hX : ∀ j, j < w → A.1 57 (a + j) = X j) (hY : ∀ j, j < w → A.1 57 (a + w + j) = Y j) : zMv l Gr (zc n w) 168 M_Builder_buildShift (d + 2) [.ref 77, .int (nI i), .int (nI a), .int (nI (a + w))] A (fun A' => (nvb (xbo Y) w 0 < w → KEc A A' ∧ FK (fun c i => (c = 51 ∧ i < w) ∨ (c = 57 ∧ a ≤ i ∧ i < a + w)) A A' ∧ ∀ j, j < w → A'.1 57 (a + j) = shfF w o (nvb (xbo Y) w 0) X j) ∧ (¬ nvb (xbo Y) w 0 < w → A' = kT A 7 (A.1 7 i))) := by
  have c0 : ((nI i : Int32)).toNatClampNeg = i := nI_clamp (by omega)
  refine e_Builder_buildShift (b_Builder_buildShift_0 hg (w_numb (a := a + w) hw (by omega) hY) (fun v A1 k1 => ?_))
  rw [k1.1, k1.2]
  refine b_Builder_buildShift_12 (fun z => ?_) (fun z => ?_)
  · have hv := (cm_w hw (nvb_62 hw)).mp z
    refine b_Builder_buildShift_44 (vp_in_nI hi (by omega)) (fun y => b_Builder_buildShift_73 (b_Builder_buildShift_77 hg ?_ (fun A' k => b_Builder_buildShift_80 ⟨rfl, fun _ => k, fun y => absurd hv y⟩))) (fun y => b_Builder_buildShift_67 (b_Builder_buildShift_77 hg ?_ (fun A' k => b_Builder_buildShift_80 ⟨rfl, fun _ => k, fun y => absurd hv y⟩)))
    · rw [c0, h4] at y
      rw [show (Int64.ofNat (nvb (xbo Y) w 0)).toInt32 = nI (nvb (xbo Y) w 0) from lN_i _]
      exact w_shift (d := d) hw (by omega) (SHf_r hw hv y) KEc_rfl hX
    · rw [c0, h4] at y
      subst y
      rw [show (Int64.ofNat (nvb (xbo Y) w 0)).toInt32 = nI (nvb (xbo Y) w 0) from lN_i _]
      exact w_shift (d := d) hw (by omega) (SHf_l hw hv) KEc_rfl hX
  · have hv := fun q => z ((cm_w hw (nvb_62 hw)).mpr q)
    exact b_Builder_buildShift_25 hg (vp_in_nI hi (by omega)) w_tl (fun A' k => b_Builder_buildShift_43 ⟨rfl, fun y => absurd y hv, fun _ => by rw [k, c0]⟩)
theorem w_shf (hg : ip_gk (lg_tbl, vwCl, Gr)) (hw : w ≤ 32) (hi : i < 4000) (ho : o = 12 ∨ o = 13) (h4 : A.1 4 i = nI (37 + o)) (h8 : A.1 45 8 = nI (a + w + w)) (ha : a + w + w ≤ 9682 * w) (hX : ∀ j, j < w → A.1 57 (a + j) = X j) (hY : ∀ j, j < w → A.1 57 (a + w + j) = Y j) : zMv l Gr (zc n w) 168 M_Builder_buildOperator (d + 5) [.ref 77, .int (nI i), .int (nI (37 + o))] A (fun A' => (nvb (xbo Y) w 0 < w → OPk A A A' a w w (shfF w o (nvb (xbo Y) w 0) X)) ∧ (¬ nvb (xbo Y) w 0 < w → A' = kT (zi A 45 8 (nI (a + w))) 7 (A.1 7 i))) := by
  have gi : ∀ t, t < 100 → nI (37 + o) = nI t → 37 + o = t := fun t ht z => (nI_eq (by omega) (by omega)).mp z
  have c4 : (zi A 45 8 (nI (a + w))).1 4 i = 49 ↔ o = 12 := by
    rw [zi_c (by decide), h4]
    exact ⟨fun y => by have := gi 49 (by omega) y; omega, fun y => by rw [y]; rfl⟩
  have go : zW l Gr (zc n w) 168 M_Builder_buildOperator (d + 5) 242 [some (.ref 77), some (.int (nI i)), none, some (.int (nI (a + w))), some (.int (nI a)), none] [] (zi A 45 8 (nI (a + w))) (fun v A' => v = none ∧ (nvb (xbo Y) w 0 < w → OPk A A A' a w w (shfF w o (nvb (xbo Y) w 0) X)) ∧ (¬ nvb (xbo Y) w 0 < w → A' = kT (zi A 45 8 (nI (a + w))) 7 (A.1 7 i))) := by
    refine b_Builder_buildOperator_242 hg (w_bShift (d := d + 2) (o := o) (X := X) (Y := Y) hg hw hi c4 ha (fun j hj => by rw [zi_c (by decide)]; exact hX j hj) (fun j hj => by rw [zi_c (by decide)]; exact hY j hj)) (fun A' k => b_Builder_buildOperator_250 (b_Builder_buildOperator_352 ⟨rfl, fun y => ?_, fun y => ?_⟩))
    · obtain ⟨k1, k2, k3⟩ := k.1 y
      refine ⟨KEc_tr (KEc_zi KEc_rfl (by omega)) k1, FK_tr (P'' := PKs a) (FK_zi (P := PKs a) (Or.inl ⟨rfl, rfl⟩)) k2 (fun _ _ z => z) (fun c j z => ?_), ?_, k3⟩
      · rcases z with z | z
        · exact PKs_a (by omega) (by omega)
        · rw [z.1]
          exact PKs_s z.2.1
      · rw [k2.1 45 8 (by omega) (by omega) (by omega), zi_get, if_pos ⟨rfl, rfl⟩]
    · rw [k.2 y, zi_c (by decide)]
  refine e_Builder_buildOperator (b_Builder_buildOperator_0 hg (vp_in_nI (by omega) (by omega)) w_bitsOf (fun v A1 k1 => ?_))
  rw [k1.2, h8, nI_subb, nI_subb]
  refine b_Builder_buildOperator_31 (fun z => ?_) (fun z => ?_) (fun z => ?_) (fun z => ?_) (fun z => ?_) (fun z => ?_) (fun _ => go) (fun _ => go) (fun z => ?_) (fun z => ?_) (fun z => ?_) (fun z => ?_) (fun z => ?_) (fun _ _ _ _ _ _ z49 z50 _ _ _ _ _ => ?_)
  · have := gi 43 (by omega) z; omega
  · have := gi 44 (by omega) z; omega
  · have := gi 45 (by omega) z; omega
  · have := gi 46 (by omega) z; omega
  · have := gi 47 (by omega) z; omega
  · have := gi 48 (by omega) z; omega
  · have := gi 51 (by omega) z; omega
  · have := gi 52 (by omega) z; omega
  · have := gi 53 (by omega) z; omega
  · have := gi 54 (by omega) z; omega
  · have := gi 55 (by omega) z; omega
  · rcases ho with e | e
    · exact absurd (by rw [e]; rfl) z49
    · exact absurd (by rw [e]; rfl) z50
theorem mb_87 (hw : w ≤ 32) (hv : v < w) (ho : o = 12 ∨ o = 13) : ∀ (k j : Nat) (B : zS), j + k = w → MEc T B → (∀ i, i < w → B.1 123 i = X i) → (∀ i, i < j → B.1 125 i = shfF w o v X i) → (∀ B', MEc T B' → FM (fun c i => c = 125 ∧ i < 40) B B' → (∀ i, i < w → B'.1 125 i = shfF w o v X i) → zW l Gr (zc n w) 168 M_Mo_binary (d + 5) 167 [some (.ref 105), none, none, none, none, none, none, none] [] B' Q) → zW l Gr (zc n w) 168 M_Mo_binary (d + 5) 87 [some (.ref 105), none, some (.int (nI o)), none, some (.long (lN v)), none, some (.int (nI j)), none] [] B Q
  | 0, j, B, h, hK, h1, h2, hQ => b_Mo_binary_87 (fun _ => hQ B hK FM_rfl (fun i hi => h2 i (by omega))) (fun z => absurd (nI_le (a := w) (b := j) (by omega) (by omega)) z)
  | k + 1, j, B, h, hK, h1, h2, hQ => by
    have go : ∀ u, u = shfF w o v X j → zW l Gr (zc n w) 168 M_Mo_binary (d + 5) 160 [some (.ref 105), none, some (.int (nI o)), none, some (.long (lN v)), none, some (.int (nI j)), none] [.int u, .int (nI j), .ref 157] B Q := fun u hu => by
      refine b_Mo_binary_160 (vp_in_nI (by omega) (by omega)) ?_
      rw [nI_clamp (by omega), show nI j + Int32.ofInt 1 = nI (j + 1) from nI_add j 1, hu]
      refine mb_87 hw hv ho k (j + 1) _ (by omega) (MEc_zi hK (by omega)) (fun i hi => by rw [zi_c (by decide)]; exact h1 i hi) (fun i hi => ?_) (fun B' e1 e2 e3 => hQ B' e1 (FM_tr (FM_zi (P := fun c i => c = 125 ∧ i < 40) ⟨rfl, by omega⟩) e2 (fun _ _ z => z) (fun _ _ z => z)) e3)
      rw [zi_get]
      by_cases z : i = j
      · rw [if_pos ⟨rfl, z⟩, z]
      · rw [if_neg (by omega)]
        exact h2 i (by omega)
    have at117 : ∀ (s : Int32), ((s < 0 ∨ ¬ s < nI w) ∧ shfF w o v X j = -2) ∨ (∃ i, i < w ∧ s = nI i ∧ shfF w o v X j = X i) → zW l Gr (zc n w) 168 M_Mo_binary (d + 5) 117 [some (.ref 105), none, some (.int (nI o)), none, some (.long (lN v)), none, some (.int (nI j)), none] [.int s] B Q := fun s hs => by
      refine b_Mo_binary_117 (fun z => b_Mo_binary_158 (go _ ?_)) (fun z => b_Mo_binary_130 (fun y => b_Mo_binary_158 (go _ ?_)) (fun y => ?_))
      · rcases hs with q | ⟨i, hi, e, _⟩
        · exact q.2.symm
        · rw [e] at z
          exact absurd z (nI_pos (by omega))
      · rcases hs with q | ⟨i, hi, e, _⟩
        · exact q.2.symm
        · rw [e] at y
          exact absurd y (nI_ge (by omega) (by omega))
      · rcases hs with q | ⟨i, hi, e, e2⟩
        · exact absurd (Int32.not_le.mp y) (q.1.resolve_left z)
        · rw [e]
          refine b_Mo_binary_139 (fun _ => b_Mo_binary_152 (b_Mo_binary_154 (vp_in_nI (by omega) (by omega)) ?_)) (fun q => absurd (nI_pos' (by omega)) q)
          rw [nI_clamp (by omega), h1 i hi]
          exact go _ e2.symm
    refine b_Mo_binary_87 (fun z => absurd z (nI_ge (a := j) (b := w) (by omega) (by omega))) (fun _ => b_Mo_binary_96 (fun z => b_Mo_binary_111 ?_) (fun z => b_Mo_binary_102 ?_))
    · have e : ¬ o = 12 := fun q => z (by rw [q]; rfl)
      rw [lN_i, nI_add]
      have := SHf_r (X := X) hw hv e j (by omega)
      rw [nI_sng] at this
      exact at117 _ this
    · have e : o = 12 := (nI_eq (b := 12) (by omega) (by omega)).mp z
      rw [lN_i]
      subst e
      exact at117 _ (SHf_l (X := X) hw hv j (by omega))
theorem wm_shf (hg : ip_gk (lg_tbl, vwCl, Gr)) (hw : w ≤ 32) (hq : q + 1 < 4200) (hi : a < 12000) (ho : o = 12 ∨ o = 13) (h79 : B.1 79 a = nI o) (h85 : B.1 73 85 = nI (q + 2)) (hX : ∀ i, i < w → B.1 122 (32 * q + i) = X i) (hY : ∀ i, i < w → B.1 122 (32 * (q + 1) + i) = Y i) : zMv l Gr (zc n w) 168 M_Mo_binary (d + 5) [.ref 105, .int (nI a)] B (fun B' => (nvb (xbo Y) w 0 < w → OPd B B B' q w (shfF w o (nvb (xbo Y) w 0) X)) ∧ (¬ nvb (xbo Y) w 0 < w → B' = mT B 7 (B.1 106 a))) := by
  refine e_Mo_binary (b_Mo_binary_0 hg (vp_in_nI (by omega) (by omega)) wm_width (fun v B1 k1 => ?_))
  rw [k1.2, nI_clamp (by omega), h79]
  have e85 : B.1 73 85 - 1 = nI (q + 1) := by rw [h85, nI_pred]
  have go : zW l Gr (zc n w) 168 M_Mo_binary (d + 5) 30 [some (.ref 105), some (.int (nI a)), some (.int (nI o)), none, none, none, none, none] [] B (fun v B' => v = none ∧ (nvb (xbo Y) w 0 < w → OPd B B B' q w (shfF w o (nvb (xbo Y) w 0) X)) ∧ (¬ nvb (xbo Y) w 0 < w → B' = mT B 7 (B.1 106 a))) := by
    refine b_Mo_binary_30 hg (R := fun v B' => v = Int64.ofNat (nvb (xbo Y) w 0) ∧ B' = B) (by rw [e85]; exact wm_worth hw hq hY) (fun v B1 k1 => ?_)
    rw [k1.1, k1.2]
    refine b_Mo_binary_40 (fun z => ?_) (fun z => ?_)
    · have hv := (cm_w hw (nvb_62 hw)).mp z
      refine b_Mo_binary_66 hg (R := fun B' => MEc B B' ∧ FM (fun c i => (c = 73 ∧ i = 85) ∨ (c = 123 ∧ i < 40)) (zi B 73 85 (nI (q + 1))) B' ∧ B'.1 73 85 = nI q ∧ ∀ i, i < w → B'.1 123 i = X i) (by rw [e85]; exact wm_popX hw (by omega) (MEc_85 MEc_rfl) (by rw [zi_get, if_pos ⟨rfl, rfl⟩]) (fun i hi => by rw [zi_c (by decide)]; exact hX i hi)) (fun B2 k2 => b_Mo_binary_84 (mb_87 (X := X) hw hv ho w 0 B2 (by omega) k2.1 k2.2.2.2 (fun i hi => absurd hi (by omega)) (fun B3 e1 e2 e3 => b_Mo_binary_167 hg (wm_pushZ hw (by omega) e1 (by rw [e2.1 73 85 (by omega) (by omega) (by omega)]; exact k2.2.2.1) e3) (fun B4 k4 => b_Mo_binary_175 ⟨rfl, fun _ => ⟨k4.1, ?_, k4.2.2.1, k4.2.2.2⟩, fun y => absurd hv y⟩))))
      exact FM_tr (P'' := PU q) (FM_tr (P'' := PU q) (FM_zi (P := PU q) (Or.inl ⟨rfl, rfl⟩)) k2.2.1 (fun _ _ z => z) (fun c i z => by unfold PU; omega)) (FM_tr (P'' := PU q) e2 k4.2.1 (fun c i z => PU_a (by omega) (by omega) (by omega)) (fun c i z => by unfold PU; omega)) (fun _ _ z => z) (fun _ _ z => z)
    · have hv := fun q => z ((cm_w hw (nvb_62 hw)).mpr q)
      exact b_Mo_binary_53 hg (vp_in_nI (by omega) (by omega)) wm_fl (fun B' k => b_Mo_binary_65 ⟨rfl, fun y => absurd y hv, fun _ => by rw [k, nI_clamp (by omega)]⟩)
  refine b_Mo_binary_17 (fun _ => go) (fun z => b_Mo_binary_24 (fun y => ?_) (fun _ => go))
  rcases ho with e | e
  · exact absurd (by rw [e]; rfl) z
  · exact absurd (by rw [e]; rfl) y
end SHB
