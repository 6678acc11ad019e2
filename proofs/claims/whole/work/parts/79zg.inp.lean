/-! input NAME of NUMBER : TYPE ; -/
def iA (S : zS) (iw o bt : Nat) : zS := zi (zi (zi (zi (zi (zi (zi S 18 iw (nI o)) 19 iw (nI bt)) 20 iw (S.1 17 7)) 21 iw 0) 17 6 (nI (iw + 1))) 17 7 (S.1 17 7 + nI bt)) 23 o (S.1 23 o + nI bt)
def IA (n w : Nat) (o bt : Nat) (S : zS) (iw m : Nat) (A : zS) : Prop := Ic n w A (iw + m) ∧ (∀ k, iw ≤ k → k < iw + m → A.1 18 k = nI o ∧ A.1 19 k = nI bt) ∧ (∀ k, k < iw → A.1 18 k = S.1 18 k ∧ A.1 19 k = S.1 19 k ∧ A.1 20 k = S.1 20 k ∧ A.1 21 k = S.1 21 k) ∧ (∀ c k, ¬ (17 ≤ c ∧ c ≤ 23) → A.1 c k = S.1 c k) ∧ A.2 = S.2
section INP
variable {l : Launch} {Gr : zG} {n w : Nat} {d : Nat} {b : Nat → Int32} {t p i ws dp p' i' q j m N X u k D D' vw iw s e : Nat} {S S' S'' T T' T'' : zS}
theorem iA_Ic {o bt : Nat} (h : Ic n w S iw) (hiw : iw < 256) (ho : o < n) (hn : n ≤ 16) (hbt : bt = 1 ∨ bt = w) (hw : w ≤ 32) : Ic n w (iA S iw o bt) (iw + 1) := by
  obtain ⟨h1, h2, h3, h4, h5⟩ := h
  have hb : bt ≤ 32 := by omega
  have r18 : ∀ k, (iA S iw o bt).1 18 k = if k = iw then nI o else S.1 18 k := fun k => by unfold iA; simp [zi_get]
  have r19 : ∀ k, (iA S iw o bt).1 19 k = if k = iw then nI bt else S.1 19 k := fun k => by unfold iA; simp [zi_get]
  have r20 : ∀ k, (iA S iw o bt).1 20 k = if k = iw then S.1 17 7 else S.1 20 k := fun k => by unfold iA; simp [zi_get]
  have r21 : ∀ k, (iA S iw o bt).1 21 k = if k = iw then 0 else S.1 21 k := fun k => by unfold iA; simp [zi_get]
  have r23 : ∀ k, (iA S iw o bt).1 23 k = if k = o then S.1 23 o + nI bt else S.1 23 k := fun k => by unfold iA; simp [zi_get]
  have r6 : (iA S iw o bt).1 17 6 = nI (iw + 1) := by unfold iA; simp [zi_get]
  have r7 : (iA S iw o bt).1 17 7 = S.1 17 7 + nI bt := by unfold iA; simp [zi_get]
  have wW : ∀ a, a ≤ iw → iW (iA S iw o bt) a = iW S a := fun a ha => iW_cong a (fun k hk => by rw [r19, if_neg (by omega)])
  have bB : iB (iA S iw o bt) iw = bt := by rw [iB, r19, if_pos rfl, nI_clamp (by omega)]
  have oO : iO (iA S iw o bt) iw = o := by rw [iO, r18, if_pos rfl, nI_clamp (by omega)]
  have qQ : ∀ q, iQ (iA S iw o bt) q iw = iQ S q iw := fun q => iQ_cong iw (fun k hk => ⟨by rw [r18, if_neg (by omega)], by rw [r19, if_neg (by omega)]⟩)
  refine ⟨by omega, r6, ?_, fun a ha => ?_, fun q hq => ?_⟩
  · rw [r7, h3, nI_add]
    show _ = nI (iW _ iw + iB _ iw)
    rw [wW iw (Nat.le_refl _), bB]
  · by_cases z : a = iw
    · subst z
      exact ⟨o, bt, ho, hbt, by rw [r18, if_pos rfl], by rw [r19, if_pos rfl], by rw [r20, if_pos rfl, h3, wW a (Nat.le_refl _)], by rw [r21, if_pos rfl]⟩
    · obtain ⟨o', b', x1, x2, x3, x4, x5, x6⟩ := h4 a (by omega)
      exact ⟨o', b', x1, x2, by rw [r18, if_neg z]; exact x3, by rw [r19, if_neg z]; exact x4, by rw [r20, if_neg z, wW a (by omega)]; exact x5, by rw [r21, if_neg z]; exact x6⟩
  · show _ = nI (iQ _ q iw + (if iO _ iw = q then iB _ iw else 0))
    rw [qQ, oO, bB, r23]
    by_cases z : q = o
    · subst z
      rw [if_pos rfl, if_pos rfl, h5 q hq, nI_add]
    · rw [if_neg z, if_neg (fun y => z y.symm), h5 q hq]
      rfl
theorem wx_iadd {o bt c : Nat} (ho : o < n) (hn : n ≤ 16) (hbt : bt = 1 ∨ bt = w) (hw : w ≤ 32) (hc : c ≤ 64) {Q : Option Value → zS → Prop} : ∀ (m : Nat) (S : zS) (iw a : Nat), a + m = c → iw + m ≤ 256 → Ic n w S iw → (∀ A, IA n w o bt S iw m A → Q none A) → zW l Gr (zc n w) 168 M_Inputs_add d 3 [some (.ref 49), some (.int (nI o)), some (.int (nI bt)), some (.int (nI c)), some (.int (nI a))] [] S Q
  | 0, S, iw, a, hm, hi, hI, k => b_Inputs_add_3 (fun _ => b_Inputs_add_98 (k S ⟨hI, fun k h1 h2 => absurd h2 (by omega), fun k _ => ⟨rfl, rfl, rfl, rfl⟩, fun _ _ _ => rfl, rfl⟩)) (fun z => absurd (nI_le (by omega) (by omega)) z)
  | m + 1, S, iw, a, hm, hi, hI, k => by
    have h2 := hI.2.1
    refine b_Inputs_add_3 (fun z => absurd z (nI_ge (by omega) (by omega))) (fun _ => b_Inputs_add_9 (fun z => ?_) (fun _ => ?_))
    · rw [h2] at z
      exact absurd z (nI_ge (a := iw) (b := 256) (by omega) (by omega))
    · refine b_Inputs_add_19 (by rw [h2]; exact vp_in_nI (by omega) (by omega)) (vp_in_nI ho (by omega)) ?_
      rw [h2, nI_clamp (by omega), nI_clamp (by omega), nI_1, show nI a + Int32.ofInt 1 = nI (a + 1) from nI_1 a]
      have hI1 := iA_Ic hI (by omega) ho hn hbt hw
      refine wx_iadd ho hn hbt hw hc m (iA S iw o bt) (iw + 1) (a + 1) (by omega) (by omega) hI1 (fun A hA => k A ?_)
      obtain ⟨x1, x2, x3, x4, x5⟩ := hA
      have r18 : ∀ k, (iA S iw o bt).1 18 k = if k = iw then nI o else S.1 18 k := fun k => by unfold iA; simp [zi_get]
      have r19 : ∀ k, (iA S iw o bt).1 19 k = if k = iw then nI bt else S.1 19 k := fun k => by unfold iA; simp [zi_get]
      have r20 : ∀ k, (iA S iw o bt).1 20 k = if k = iw then S.1 17 7 else S.1 20 k := fun k => by unfold iA; simp [zi_get]
      have r21 : ∀ k, (iA S iw o bt).1 21 k = if k = iw then 0 else S.1 21 k := fun k => by unfold iA; simp [zi_get]
      refine ⟨by rw [show iw + (m + 1) = iw + 1 + m by omega]; exact x1, fun k h1 h2 => ?_, fun k hk => ?_, fun c k hc => (x4 c k hc).trans ?_, x5⟩
      · by_cases z : k = iw
        · have y := x3 k (by omega)
          exact ⟨y.1.trans (by rw [r18, if_pos z]), y.2.1.trans (by rw [r19, if_pos z])⟩
        · exact x2 k (by omega) (by omega)
      · have y := x3 k (by omega)
        exact ⟨y.1.trans (by rw [r18, if_neg (by omega)]), y.2.1.trans (by rw [r19, if_neg (by omega)]), y.2.2.1.trans (by rw [r20, if_neg (by omega)]), y.2.2.2.trans (by rw [r21, if_neg (by omega)])⟩
      · unfold iA
        rw [zi_c (by omega), zi_c (by omega), zi_c (by omega), zi_c (by omega), zi_c (by omega), zi_c (by omega), zi_c (by omega)]
theorem w_iadd {o bt c : Nat} (ho : o < n) (hn : n ≤ 16) (hbt : bt = 1 ∨ bt = w) (hw : w ≤ 32) (hc : c ≤ 64) (hI : Ic n w S iw) (hi : iw + c ≤ 256) : zMv l Gr (zc n w) 168 M_Inputs_add d [.ref 49, .int (nI o), .int (nI bt), .int (nI c)] S (fun A => IA n w o bt S iw c A) :=
  e_Inputs_add (b_Inputs_add_0 (wx_iadd ho hn hbt hw hc c S iw 0 (by omega) hi hI (fun A hA => ⟨rfl, hA⟩)))
theorem CS_fr (h : CS b t p i ws S) (hf : ∀ c k, ¬ (17 ≤ c ∧ c ≤ 23) → S'.1 c k = S.1 c k) : CS b t p i ws S' := by
  obtain ⟨h1, h2, h3, h4, h5, h6, h7, h8, h9⟩ := h
  exact ⟨(funext fun k => hf 2 k (by omega)).trans h1, (hf _ _ (by omega)).trans h2, (hf _ _ (by omega)).trans h3, (hf _ _ (by omega)).trans h4, (hf _ _ (by omega)).trans h5, (hf _ _ (by omega)).trans h6, (hf _ _ (by omega)).trans h7, (hf _ _ (by omega)).trans h8, h9⟩
/-- takeNumber behind a FAULT -/
theorem w_takeNumberN (hg : ip_gk (lg_tbl, vwCl, Gr)) (htx : ∀ k, k < t → tx (b k)) {f x : Int32} {x1 x3 : Int64} (hf : ¬ f = 0) (h : CS b t p i ws S) : zMl l Gr (zc n w) 168 M_Reader_takeNumber (d + 6) [.ref 66, .long x1, .long x3] (cF S f x) (fun _ S' => S' = cF S f x) := by
  have hp := h.2.2.2.2.2.2.2.2.1.1
  have hte := te_ge (b := b) hp
  have hte2 := te_le (b := b) hp
  have ht := h.2.2.2.2.2.2.2.2.2
  obtain ⟨Y, eY⟩ : ∃ Y, Y = cF S f x := ⟨_, rfl⟩
  have f0 : ¬ Y.1 3 5 = 0 := by rw [eY, cF_f.1]; exact hf
  have y2 : Y.1 2 = b := by rw [eY]; unfold cF; rw [zi_row (by decide), zi_row (by decide)]; exact h.1
  have y38 : ∀ k, Y.1 38 k = S.1 38 k := fun k => by rw [eY]; unfold cF; rw [zi_c (by decide), zi_c (by decide)]
  rw [← eY]
  refine e_Reader_takeNumber (b_Reader_takeNumber_0 (fun z => ?_) (fun z => ?_))
  · rw [y38, h.2.2.2.1] at z
    have et := isd_tk htx hp z
    have hdg := re_dig (b := b) hp et
    refine b_Reader_takeNumber_28 hg (w_number y2 ((y38 3).trans h.2.2.1) ((y38 4).trans h.2.2.2.2.1) (by omega) hte hdg) (fun v S1 hv => ?_)
    rw [hv.1]
    have fin : zW l Gr (zc n w) 168 M_Reader_takeNumber (d + 6) 66 [some (.ref 66), none, none, none, none, some (.long v), none] [] Y (fun v S' => ∃ x, v = some (.long x) ∧ S' = Y) := b_Reader_takeNumber_66 (fun _ => b_Reader_takeNumber_83 ⟨_, rfl, rfl⟩) (fun y => absurd y f0)
    have bad : zW l Gr (zc n w) 168 M_Reader_takeNumber (d + 6) 51 [some (.ref 66), none, none, none, none, some (.long v), none] [] Y (fun v S' => ∃ x, v = some (.long x) ∧ S' = Y) := b_Reader_takeNumber_51 hg (w_tellN f0) (fun A e => by rw [e]; exact fin)
    exact b_Reader_takeNumber_35 (fun _ => bad) (fun _ => b_Reader_takeNumber_44 (fun _ => fin) (fun _ => bad))
  · exact b_Reader_takeNumber_11 hg (w_tellN f0) (fun A e => b_Reader_takeNumber_26 ⟨_, rfl, e⟩)
end INP
