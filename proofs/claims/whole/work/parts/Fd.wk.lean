/-! the circuit's values in the class: work() -/
/-- a literal's value -/
def litV (V : Nat → Nat) (x : Int32) : Nat := if x < 0 then (if x &&& 1 = 1 then 1 else 0) else (V (x >>> (1 &&& 31)).toNatClampNeg + (if x &&& 1 = 1 then 1 else 0)) % 2
/-- V is the circuit's values for inputs vm -/
def CVs (S : zS) (G wb iw : Nat) (vm V : Nat → Nat) : Prop := (∀ t, V t = 0 ∨ V t = 1) ∧ (∀ a j, a < iw → j < iB S a → V (Wb (iB S) a + j) = vm a / 2 ^ j % 2) ∧ ∀ g, g < G → V (wb + g) = if gAn S g = true then litV V (S.1 113 g) * litV V (S.1 114 g) else (litV V (S.1 113 g) + litV V (S.1 114 g)) % 2
def cFx (S : zS) (X Y : Nat → Int32) (an : Nat → Bool) (wb g : Nat) : Prop := S.1 33 (wb + g) = if an g = true then shK 33 S (X g) &&& shK 33 S (Y g) else shK 33 S (X g) ^^^ shK 33 S (Y g)
def FWo (S S' : zS) : Prop := (∀ c k, ¬ c = 33 → S'.1 c k = S.1 c k) ∧ ∀ c k, S'.2 c k = S.2 c k
section WRK
variable {l : Launch} {Gr : zG} {n w d G wb iw a k b : Nat} {S S' S0 : zS} {x v x2 : Int32} {X Y : Nat → Int32} {an : Nat → Bool} {vm V : Nat → Nat} {Q : Option Value → zS → Prop}
theorem litV_01 (hV : ∀ t, V t = 0 ∨ V t = 1) (x : Int32) : litV V x = 0 ∨ litV V x = 1 := by
  unfold litV
  split
  · split
    · exact Or.inr rfl
    · exact Or.inl rfl
  · omega
theorem shK_lit (hV : ∀ t, V t = 0 ∨ V t = 1) (hr : x < 0 ∨ ∃ a, a < 2 * b ∧ b < 2 ^ 29 ∧ x = nI a) (h33 : ∀ t, t < b → S.1 33 t = nI (V t)) : shK 33 S x = nI (litV V x) := by
  unfold shK litV
  have e1 : x &&& 1 = nI (if x &&& 1 = 1 then 1 else 0) := by
    rcases and1_01 x with e | e
    · rw [e, if_neg (by decide)]
      rfl
    · rw [e, if_pos rfl]
      rfl
  by_cases z : x < 0
  · rw [if_pos z, if_pos z]
    exact e1
  · rcases hr with q | ⟨a, ha, hb, rfl⟩
    · exact absurd q z
    · rw [if_neg z, if_neg z, shr_n (by omega), nI_clamp (by omega), h33 _ (by omega)]
      have e2 := xor_01 (hV (a / 2)) (show (if nI a &&& 1 = 1 then 1 else 0) = 0 ∨ (if nI a &&& 1 = 1 then 1 else 0) = 1 by split <;> omega)
      rw [← e2, ← e1]
theorem and_01 {a b : Nat} (ha : a = 0 ∨ a = 1) (hb : b = 0 ∨ b = 1) : nI a &&& nI b = nI (a * b) := by
  rcases ha with rfl | rfl <;> rcases hb with rfl | rfl <;> rfl
theorem w_clr (hw : w ≤ 32) (h : x < 0 ∨ ∃ a, a < 2 * (256 * w + 40000) ∧ x = nI a) : zMi l Gr (zc n w) 168 M_Circuit_clearOf d [.ref 56, .int x] S (fun v S' => v = shK 33 S x ∧ S' = S) := by
  by_cases z : x < 0
  · refine e_Circuit_clearOf (b_Circuit_clearOf_0 (fun _ => b_Circuit_clearOf_15 (b_Circuit_clearOf_33 ⟨_, rfl, ?_, rfl⟩)) (fun y => absurd z y))
    unfold shK
    rw [if_pos z]
  · rcases h with h | ⟨a, ha, rfl⟩
    · exact absurd h z
    · have e := shr_n (k := a) (Nat.lt_of_lt_of_le ha (Nat.le_trans (show 2 * (256 * w + 40000) ≤ 96384 by omega) (by decide)))
      refine e_Circuit_clearOf (b_Circuit_clearOf_0 (fun y => absurd y z) (fun _ => b_Circuit_clearOf_4 (fun _ => b_Circuit_clearOf_21 (by rw [e]; exact vp_in_nI (by omega) (by omega)) (b_Circuit_clearOf_33 ⟨_, rfl, ?_, rfl⟩)) (fun y => absurd (by rw [e]; exact (nI_ltI (by omega) (by omega)).mpr (by omega)) y)))
      unfold shK
      rw [if_neg z]
theorem wrk_34 (hw : w ≤ 32) (hiw : iw ≤ 256) (hWb : Wb (iB S0) iw ≤ 256 * w) (h19 : S0.1 19 a = nI (iB S0 a)) (h20 : S0.1 20 a = nI (Wb (iB S0) a)) (hb : iB S0 a ≤ 32) (hv : vm a < 2 ^ 32) (ha : a < iw) (kk : ∀ S', FWo S0 S' → (∀ a' j', a' < a + 1 → j' < iB S0 a' → S'.1 33 (Wb (iB S0) a' + j') = nI (vm a' / 2 ^ j' % 2)) → zW l Gr (zc n w) 168 M_Circuit_work (d + 1) 2 [some (.ref 56), some (.ref 49), some (.int x2), some (.int (nI (a + 1))), none, none] [] S' Q) : ∀ c j S, j + c = iB S0 a → FWo S0 S → (∀ a' j', a' < a → j' < iB S0 a' → S.1 33 (Wb (iB S0) a' + j') = nI (vm a' / 2 ^ j' % 2)) → (∀ j', j' < j → S.1 33 (Wb (iB S0) a + j') = nI (vm a / 2 ^ j' % 2)) → zW l Gr (zc n w) 168 M_Circuit_work (d + 1) 34 [some (.ref 56), some (.ref 49), some (.int x2), some (.int (nI a)), some (.int (nI (vm a))), some (.int (nI j))] [] S Q
  | 0, j, S, h, hF, h1, h2 => by
    have ca : (nI a).toNatClampNeg = a := nI_clamp (by omega)
    refine b_Circuit_work_r49_34 (vp_in_nI (by omega) (by omega)) (fun _ => b_Circuit_work_r49_89 ?_) (fun y => absurd (by rw [ca, hF.1 19 a (by omega), h19]; exact nI_le (by omega) (by omega)) y)
    rw [show nI a + Int32.ofInt 1 = nI (a + 1) from nI_add a 1]
    refine kk S hF (fun a' j' q1 q2 => ?_)
    by_cases z : a' = a
    · rw [z] at q2 ⊢
      exact h2 j' (by omega)
    · exact h1 a' j' (by omega) q2
  | c + 1, j, S, h, hF, h1, h2 => by
    have ca : (nI a).toNatClampNeg = a := nI_clamp (by omega)
    have va : vp_in (nI a) 256 := vp_in_nI (by omega) (by omega)
    have hWa := Wb_le (bt := iB S0) ha
    have e20 : S.1 20 a = nI (Wb (iB S0) a) := by rw [hF.1 20 a (by omega)]; exact h20
    refine b_Circuit_work_r49_34 va (fun y => absurd y (by rw [ca, hF.1 19 a (by omega), h19]; exact nI_ge (by omega) (by omega))) (fun _ => b_Circuit_work_r49_45 va (fun y => absurd y (by rw [ca, e20, nI_add]; exact nI_ge (by omega) (by omega))) (fun _ => b_Circuit_work_r49_62 va (by rw [ca, e20, nI_add]; exact vp_in_nI (by omega) (by omega)) ?_))
    rw [ca, e20, nI_add, nI_clamp (by omega), bit_i (by omega) hv, show nI j + Int32.ofInt 1 = nI (j + 1) from nI_add j 1]
    refine wrk_34 hw hiw hWb h19 h20 hb hv ha kk c (j + 1) _ (by omega) ⟨fun c' k' q => by rw [zi_c q]; exact hF.1 c' k' q, fun c' k' => hF.2 c' k'⟩ (fun a' j' q1 q2 => ?_) (fun j' q1 => ?_)
    · have := Wb_le (bt := iB S0) q1
      rw [zi_k (by omega)]
      exact h1 a' j' q1 q2
    · by_cases z : j' = j
      · rw [z, zi_v]
      · rw [zi_k (by omega)]
        exact h2 j' (by omega)
theorem wrk_2 (hw : w ≤ 32) (hiw : iw ≤ 256) (hWb : Wb (iB S0) iw ≤ 256 * w) (h6 : S0.1 17 6 = nI iw) (hI : ∀ a, a < iw → S0.1 19 a = nI (iB S0 a) ∧ S0.1 20 a = nI (Wb (iB S0) a) ∧ iB S0 a ≤ 32 ∧ vm a < 2 ^ 32 ∧ (if x2 = 0 then S0.1 21 a else S0.1 22 a) = nI (vm a)) (kk : ∀ S', FWo S0 S' → (∀ a' j', a' < iw → j' < iB S0 a' → S'.1 33 (Wb (iB S0) a' + j') = nI (vm a' / 2 ^ j' % 2)) → zW l Gr (zc n w) 168 M_Circuit_work (d + 1) 95 [some (.ref 56), none, none, none, none, none] [] S' Q) : ∀ c a S, a + c = iw → FWo S0 S → (∀ a' j', a' < a → j' < iB S0 a' → S.1 33 (Wb (iB S0) a' + j') = nI (vm a' / 2 ^ j' % 2)) → zW l Gr (zc n w) 168 M_Circuit_work (d + 1) 2 [some (.ref 56), some (.ref 49), some (.int x2), some (.int (nI a)), none, none] [] S Q
  | 0, a, S, h, hF, h1 => by
    have ea : a = iw := by omega
    subst ea
    exact b_Circuit_work_r49_2 (fun _ => kk S hF h1) (fun y => absurd (by rw [hF.1 17 6 (by omega), h6]; exact nI_le (Nat.le_refl _) (by omega)) y)
  | c + 1, a, S, h, hF, h1 => by
    have ca : (nI a).toNatClampNeg = a := nI_clamp (by omega)
    have va : vp_in (nI a) 256 := vp_in_nI (by omega) (by omega)
    obtain ⟨i1, i2, i3, i4, i5⟩ := hI a (by omega)
    have go : zW l Gr (zc n w) 168 M_Circuit_work (d + 1) 29 [some (.ref 56), some (.ref 49), some (.int x2), some (.int (nI a)), none, none] [.int (nI (vm a))] S Q := b_Circuit_work_r49_29 (wrk_34 hw hiw hWb i1 i2 i3 i4 (by omega) (fun S' q1 q2 => wrk_2 hw hiw hWb h6 hI kk c (a + 1) S' (by omega) q1 q2) (iB S0 a) 0 S (by omega) hF h1 (fun j' hj => absurd hj (Nat.not_lt_zero _)))
    refine b_Circuit_work_r49_2 (fun y => absurd y (by rw [hF.1 17 6 (by omega), h6]; exact nI_ge (by omega) (by omega))) (fun _ => b_Circuit_work_r49_10 (fun z => b_Circuit_work_r49_23 va ?_) (fun z => b_Circuit_work_r49_14 va ?_))
    · rw [if_pos z] at i5
      rw [ca, hF.1 21 a (by omega), i5]
      exact go
    · rw [if_neg z] at i5
      rw [ca, hF.1 22 a (by omega), i5]
      exact go
theorem wrk_97 (hg : ip_gk (lg_tbl, vwCl, Gr)) (hw : w ≤ 32) (hL : LGt X Y wb G) (hG : G ≤ 40000) (hwb : wb ≤ 256 * w) (h4 : S0.1 24 4 = nI G) (h8 : S0.1 24 8 = nI wb) (hX : ∀ g, g < G → S0.1 25 g = X g ∧ S0.1 26 g = Y g ∧ (S0.1 28 g = -1 ↔ ¬ an g = true)) (kk : ∀ S', FWo S0 S' → (∀ t, t < wb → S'.1 33 t = S0.1 33 t) → (∀ g, g < G → cFx S' X Y an wb g) → Q none S') : ∀ c g S, g + c = G → FWo S0 S → (∀ t, t < wb → S.1 33 t = S0.1 33 t) → (∀ g', g' < g → cFx S X Y an wb g') → zW l Gr (zc n w) 168 M_Circuit_work (d + 1) 97 [some (.ref 56), none, none, some (.int (nI g)), none, none] [] S Q
  | 0, g, S, h, hF, h0, h1 => by
    have eg : g = G := by omega
    subst eg
    exact b_Circuit_work_r49_97 (fun _ => b_Circuit_work_r49_183 (kk S hF h0 h1)) (fun y => absurd (by rw [hF.1 24 4 (by omega), h4]; exact nI_le (Nat.le_refl _) (by omega)) y)
  | c + 1, g, S, h, hF, h0, h1 => by
    have ck : (nI g).toNatClampNeg = g := nI_clamp (by omega)
    have vg : vp_in (nI g) 40000 := vp_in_nI (by omega) (by omega)
    obtain ⟨x1, x2, x3⟩ := hX g (by omega)
    obtain ⟨⟨a, ha, ea⟩, b, hb, eb⟩ := hL g (by omega)
    have e25 : S.1 25 g = X g := (hF.1 25 g (by omega)).trans x1
    have e26 : S.1 26 g = Y g := (hF.1 26 g (by omega)).trans x2
    have e8 : S.1 24 8 = nI wb := (hF.1 24 8 (by omega)).trans h8
    have fin : ∀ v : Int32, (v = if an g = true then shK 33 S (X g) &&& shK 33 S (Y g) else shK 33 S (X g) ^^^ shK 33 S (Y g)) → zW l Gr (zc n w) 168 M_Circuit_work (d + 1) 176 [some (.ref 56), none, none, some (.int (nI g)), none, none] [.int v, .int (nI wb + nI g), .ref 65] S Q := fun v hv => by
      refine b_Circuit_work_r49_176 (by rw [nI_add]; exact vp_in_nI (by omega) (by omega)) ?_
      rw [nI_add, nI_clamp (by omega), show nI g + Int32.ofInt 1 = nI (g + 1) from nI_add g 1]
      refine wrk_97 hg hw hL hG hwb h4 h8 hX kk c (g + 1) _ (by omega) ⟨fun c' k' q => by rw [zi_c q]; exact hF.1 c' k' q, fun c' k' => hF.2 c' k'⟩ (fun t ht => by rw [zi_k (by omega)]; exact h0 t ht) (fun g' hg' => ?_)
      obtain ⟨⟨a', ha', ea'⟩, b', hb', eb'⟩ := hL g' (by omega)
      unfold cFx
      rw [ea', eb', shK_zi (by omega) (by omega), shK_zi (by omega) (by omega)]
      by_cases z : g' = g
      · rw [z] at ea' eb' ⊢
        rw [zi_v, hv, ea', eb']
      · have q := h1 g' (by omega)
        unfold cFx at q
        rw [zi_k (by omega), q, ea', eb']
    refine b_Circuit_work_r49_97 (fun y => absurd y (by rw [hF.1 24 4 (by omega), h4]; exact nI_ge (by omega) (by omega))) (fun _ => b_Circuit_work_r49_105 (fun y => absurd y (by rw [e8, nI_add]; exact nI_ge (by omega) (by omega))) (fun _ => b_Circuit_work_r49_119 hg vg (w_clr hw (Or.inr ⟨a, by omega, by rw [ck, e25, ea]⟩)) (fun v S1 e => ?_)))
    obtain ⟨rfl, rfl⟩ := e
    refine b_Circuit_work_r49_129 hg vg (w_clr hw (Or.inr ⟨b, by omega, by rw [ck, e26, eb]⟩)) (fun v S1 e => ?_)
    obtain ⟨rfl, rfl⟩ := e
    have e28 : S1.1 28 g = -1 ↔ ¬ an g = true := by rw [hF.1 28 g (by omega)]; exact x3
    rw [ck, e25, e26]
    refine b_Circuit_work_r49_141 vg (fun y => ?_) (fun y => ?_)
    · rw [ck] at y
      rw [e8]
      refine b_Circuit_work_r49_171 (fin _ ?_)
      have q : an g = true := by
        by_cases z : an g = true
        · exact z
        · exact absurd (e28.mpr z) y
      rw [if_pos q]
    · rw [ck] at y
      rw [e8]
      refine b_Circuit_work_r49_163 (fin _ ?_)
      rw [if_neg (e28.mp y)]
/-- work() of the class -/
theorem w_work (hg : ip_gk (lg_tbl, vwCl, Gr)) (hn : n ≤ 16) (hw : w ≤ 32) (hF : DFx n w S G wb iw) (hv : ∀ a, a < iw → vm a < 2 ^ iB S a ∧ (if x2 = 0 then S.1 21 a else S.1 22 a) = nI (vm a)) : zMv l Gr (zc n w) 168 M_Circuit_work (d + 1) [.ref 56, .ref 49, .int x2] S (fun S' => FWo S S' ∧ ∃ V, CVs S G wb iw vm V ∧ ∀ t, t < wb + G → S'.1 33 t = nI (V t)) := by
  obtain ⟨f1, f2, f3, f4, f5, f6, f7, f8, f9, f10, f11, f12, f13, f14⟩ := hF
  refine e_Circuit_work_r49 (b_Circuit_work_r49_0 (wrk_2 (iw := iw) (vm := vm) hw f3 (by rw [← f4]; exact f2) f5 (fun a ha => ?_) (fun S1 q1 q2 => b_Circuit_work_r49_95 ?_) iw 0 S (by omega) ⟨fun _ _ _ => rfl, fun _ _ => rfl⟩ (fun a' j' h => absurd h (Nat.not_lt_zero _))))
  · obtain ⟨i1, i2, -, i4, i5, i6, -⟩ := f12 a ha
    exact ⟨i5, i6, by omega, pw_lt (hv a ha).1 (by omega), (hv a ha).2⟩
  · refine wrk_97 (X := fun g => S.1 113 g) (Y := fun g => S.1 114 g) (an := gAn S) (wb := wb) (G := G) (S0 := S1) hg hw f13 f1 f2 (by rw [q1.1 24 4 (by omega)]; exact f7) (by rw [q1.1 24 8 (by omega)]; exact f9) (fun g hg' => ?_) (fun S2 r1 r2 r3 => ⟨rfl, ⟨fun c k q => (r1.1 c k q).trans (q1.1 c k q), fun c k => (r1.2 c k).trans (q1.2 c k)⟩, ?_⟩) G 0 S1 (by omega) ⟨fun _ _ _ => rfl, fun _ _ => rfl⟩ (fun _ _ => rfl) (fun g' h => absurd h (Nat.not_lt_zero _))
    · obtain ⟨g1, g2, g3, g4, g5⟩ := f14 g hg'
      have hl := aNb_n (S := S) g
      refine ⟨by rw [q1.1 25 g (by omega)]; exact g1, by rw [q1.1 26 g (by omega)]; exact g2, ?_⟩
      rw [q1.1 28 g (by omega), g3]
      by_cases z : gAn S g = true
      · rw [if_pos z]
        exact ⟨fun y => absurd y (nI_no (by omega)), fun y => absurd z y⟩
      · rw [if_neg z]
        exact ⟨fun _ => z, fun _ => rfl⟩
    · have inp : ∀ a j, a < iw → j < iB S a → S2.1 33 (Wb (iB S) a + j) = nI (vm a / 2 ^ j % 2) := fun a j a1 a2 => by
        have hWa := Wb_le (bt := iB S) a1
        rw [r2 _ (by omega)]
        exact q2 a j a1 a2
      have hV : ∀ t, (fun t => if S2.1 33 t = 1 then 1 else 0) t = 0 ∨ (fun t => if S2.1 33 t = 1 then 1 else 0) t = 1 := fun t => by
        show (if S2.1 33 t = 1 then 1 else 0) = 0 ∨ (if S2.1 33 t = 1 then 1 else 0) = 1
        split
        · exact Or.inr rfl
        · exact Or.inl rfl
      have v01 : ∀ x : Int32, (x = 0 ∨ x = 1) → x = nI (if x = 1 then 1 else 0) := fun x hx => by
        rcases hx with rfl | rfl <;> rfl
      have row : ∀ m, m ≤ wb + G → ∀ t, t < m → S2.1 33 t = nI ((fun t => if S2.1 33 t = 1 then 1 else 0) t) := fun m => by
        induction m with
        | zero => exact fun _ t ht => absurd ht (Nat.not_lt_zero _)
        | succ m ih =>
          intro hm t ht
          have ih' := ih (by omega)
          by_cases z : t < m
          · exact ih' t z
          · by_cases z2 : t < wb
            · obtain ⟨a, j, a1, a2, a3⟩ := Wb_ex (bt := iB S) iw t (by rw [← f4]; exact z2)
              refine v01 _ ?_
              rw [a3, inp a j a1 a2]
              have h2 : vm a / 2 ^ j % 2 = 0 ∨ vm a / 2 ^ j % 2 = 1 := by omega
              rcases h2 with e | e <;> rw [e]
              · exact Or.inl rfl
              · exact Or.inr rfl
            · obtain ⟨g, rfl⟩ : ∃ g, t = wb + g := ⟨t - wb, by omega⟩
              obtain ⟨⟨xa, ha, ea⟩, xb, hb, eb⟩ := f13 g (by omega)
              have q := r3 g (by omega)
              unfold cFx at q
              refine v01 _ ?_
              rw [q, ea, eb, shK_lit hV (Or.inr ⟨xa, ha, by omega, rfl⟩) (fun t ht => ih' t (by omega)), shK_lit hV (Or.inr ⟨xb, hb, by omega, rfl⟩) (fun t ht => ih' t (by omega))]
              have l1 := litV_01 hV (nI xa)
              have l2 := litV_01 hV (nI xb)
              split
              · rw [and_01 l1 l2]
                rcases l1 with e | e <;> rcases l2 with e' | e' <;> rw [e, e']
                · exact Or.inl rfl
                · exact Or.inl rfl
                · exact Or.inl rfl
                · exact Or.inr rfl
              · rw [xor_01 l1 l2]
                rcases l1 with e | e <;> rcases l2 with e' | e' <;> rw [e, e']
                · exact Or.inl rfl
                · exact Or.inr rfl
                · exact Or.inr rfl
                · exact Or.inl rfl
      have all := row (wb + G) (Nat.le_refl _)
      refine ⟨fun t => if S2.1 33 t = 1 then 1 else 0, ⟨hV, fun a j a1 a2 => ?_, fun g hg' => ?_⟩, all⟩
      · show (if S2.1 33 (Wb (iB S) a + j) = 1 then 1 else 0) = _
        rw [inp a j a1 a2]
        have h2 : vm a / 2 ^ j % 2 = 0 ∨ vm a / 2 ^ j % 2 = 1 := by omega
        rcases h2 with e | e <;> rw [e] <;> rfl
      · obtain ⟨⟨xa, ha, ea⟩, xb, hb, eb⟩ := f13 g hg'
        have ea' : S.1 113 g = nI xa := ea
        have eb' : S.1 114 g = nI xb := eb
        have q := r3 g hg'
        unfold cFx at q
        rw [ea, eb, shK_lit hV (Or.inr ⟨xa, ha, by omega, rfl⟩) (fun t ht => all t (by omega)), shK_lit hV (Or.inr ⟨xb, hb, by omega, rfl⟩) (fun t ht => all t (by omega))] at q
        have l1 := litV_01 hV (nI xa)
        have l2 := litV_01 hV (nI xb)
        show (if S2.1 33 (wb + g) = 1 then 1 else 0) = _
        rw [q, ea', eb']
        by_cases z : gAn S g = true
        · rw [if_pos z, if_pos z, and_01 l1 l2]
          rcases l1 with e | e <;> rcases l2 with e' | e' <;> rw [e, e'] <;> rfl
        · rw [if_neg z, if_neg z, xor_01 l1 l2]
          rcases l1 with e | e <;> rcases l2 with e' | e' <;> rw [e, e'] <;> rfl
end WRK
