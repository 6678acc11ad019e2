/-! a message's bits, on both sides -/
section BTS
variable {l : Launch} {Gr : zG} {n w d f t r i a j iw k no : Nat} {S S' : zS} {x1 x2 x3 : Int32} {an : Nat → Bool} {lv : Nat → Nat} {L : Nat} {bo : Nat → Nat} {Q : Option Value → zS → Prop}
theorem iq_s (b : Nat) : iQ S f (b + 1) = iQ S f b + (if iO S b = f then iB S b else 0) := rfl
theorem iq_ex : ∀ m i, i < iQ S f m → ∃ a j, a < m ∧ iO S a = f ∧ j < iB S a ∧ i = iQ S f a + j
  | 0, i, h => absurd h (Nat.not_lt_zero _)
  | m + 1, i, h => by
    by_cases z : i < iQ S f m
    · obtain ⟨a, j, h1, h2, h3, h4⟩ := iq_ex m i z
      exact ⟨a, j, by omega, h2, h3, h4⟩
    · rw [iq_s] at h
      by_cases y : iO S m = f
      · rw [if_pos y] at h
        exact ⟨m, i - iQ S f m, by omega, y, by omega, by omega⟩
      · rw [if_neg y] at h
        omega
theorem iq_mono : ∀ {b a : Nat}, b ≤ a → iQ S f b ≤ iQ S f a
  | b, 0, h => by
    rw [show b = 0 by omega]
    exact Nat.le_refl _
  | b, a + 1, h => by
    by_cases z : b = a + 1
    · rw [z]
      exact Nat.le_refl _
    · have := iq_mono (b := b) (a := a) (by omega)
      rw [iq_s]
      omega
theorem cLx_ex : ∀ m c, c < cL an lv L m → ∃ x, x < m ∧ an x = true ∧ lv x = L ∧ cL an lv L x = c
  | 0, c, h => absurd h (Nat.not_lt_zero _)
  | m + 1, c, h => by
    by_cases z : c < cL an lv L m
    · obtain ⟨x, h1, h2⟩ := cLx_ex m c z
      exact ⟨x, by omega, h2⟩
    · have h' : c < cL an lv L m + (if an m = true ∧ lv m = L then 1 else 0) := h
      by_cases y : an m = true ∧ lv m = L
      · rw [if_pos y] at h'
        exact ⟨m, by omega, y.1, y.2, by omega⟩
      · rw [if_neg y] at h'
        omega
theorem bo_ex : ∀ m, (∀ t, t < m → bo t ≤ bo (t + 1)) → bo 0 = 0 → ∀ i, i < bo m → ∃ k, k < m ∧ bo k ≤ i ∧ i < bo (k + 1)
  | 0, _, h0, i, h => by
    rw [h0] at h
    exact absurd h (Nat.not_lt_zero _)
  | m + 1, hm, h0, i, h => by
    by_cases z : i < bo m
    · obtain ⟨k, h1, h2⟩ := bo_ex m (fun t ht => hm t (by omega)) h0 i z
      exact ⟨k, by omega, h2⟩
    · exact ⟨m, by omega, by omega, h⟩
theorem bo_mono {m : Nat} (hm : ∀ t, t < m → bo t ≤ bo (t + 1)) : ∀ {b a : Nat}, b ≤ a → a ≤ m → bo b ≤ bo a
  | b, 0, h, _ => by
    rw [show b = 0 by omega]
    exact Nat.le_refl _
  | b, a + 1, h, ha => by
    by_cases z : b = a + 1
    · rw [z]
      exact Nat.le_refl _
    · have h1 := bo_mono hm (b := b) (a := a) (by omega) (by omega)
      have h2 := hm a (by omega)
      omega
theorem xor_bit {a b s : Int32} : (((a >>> (s &&& 31)) &&& 1) ^^^ ((b >>> (s &&& 31)) &&& 1)) = ((a ^^^ b) >>> (s &&& 31)) &&& 1 := by
  apply Int32.toBitVec_inj.mp
  simp only [Int32.toBitVec_xor, Int32.toBitVec_and, Int32.toBitVec_shiftRight, BitVec.sshiftRight_eq', BitVec.sshiftRight_xor_distrib]
  generalize a.toBitVec.sshiftRight _ = p
  generalize b.toBitVec.sshiftRight _ = q
  ext k hk
  simp only [BitVec.getElem_xor, BitVec.getElem_and]
  cases p[k] <;> cases q[k] <;> cases (Int32.toBitVec 1)[k] <;> rfl
theorem wo_5 (hiw : iw ≤ 256) (h6 : S.1 17 6 = nI iw) (hB : ∀ b, b < iw → iO S b < 16 ∧ iB S b ≤ 32 ∧ S.1 18 b = nI (iO S b) ∧ S.1 19 b = nI (iB S b) ∧ S.1 20 b = nI (Wb (iB S) b)) (hq : iQ S f iw ≤ 8192) (hf : f < 16) (ha : a < iw) (hfa : iO S a = f) (hj : j < iB S a) (kk : Q (some (.int (nI (Wb (iB S) a + j)))) S) : ∀ c b, b + c = a → zW l Gr (zc n w) 168 M_Inputs_wireOf d 5 [some (.ref 49), some (.int (nI f)), none, some (.int (nI (iQ S f a + j - iQ S f b))), some (.int (nI b))] [] S Q
  | 0, b, h => by
    have eb : b = a := by omega
    subst eb
    obtain ⟨i1, i2, i3, i4, i5⟩ := hB b ha
    have cb : (nI b).toNatClampNeg = b := nI_clamp (by omega)
    have vb : vp_in (nI b) 256 := vp_in_nI (by omega) (by omega)
    rw [show iQ S f b + j - iQ S f b = j by omega]
    refine b_Inputs_wireOf_5 (fun y => absurd y (by rw [h6]; exact nI_ge (by omega) (by omega))) (fun _ => b_Inputs_wireOf_14 vb (fun y => absurd (by rw [cb, i3, hfa]) y) (fun _ => b_Inputs_wireOf_25 vb (fun y => absurd y (by rw [cb, i4]; exact nI_ge (by omega) (by omega))) (fun _ => b_Inputs_wireOf_36 vb ?_)))
    rw [cb, i5, nI_add]
    exact kk
  | c + 1, b, h => by
    obtain ⟨i1, i2, i3, i4, i5⟩ := hB b (by omega)
    have cb : (nI b).toNatClampNeg = b := nI_clamp (by omega)
    have vb : vp_in (nI b) 256 := vp_in_nI (by omega) (by omega)
    have h1 := iq_mono (S := S) (f := f) (b := b + 1) (a := a) (by omega)
    have h2 := iq_mono (S := S) (f := f) (b := a) (a := iw) (by omega)
    have i2a := (hB a ha).2.1
    have ih := wo_5 hiw h6 hB hq hf ha hfa hj kk c (b + 1) (by omega)
    rw [iq_s] at h1 ih
    refine b_Inputs_wireOf_5 (fun y => absurd y (by rw [h6]; exact nI_ge (by omega) (by omega))) (fun _ => b_Inputs_wireOf_14 vb (fun y => b_Inputs_wireOf_56 ?_) (fun y => b_Inputs_wireOf_25 vb (fun _ => b_Inputs_wireOf_46 vb (b_Inputs_wireOf_56 ?_)) (fun z => absurd ?_ z)))
    · rw [cb, i3] at y
      rw [if_neg (fun e => y (by rw [e])), Nat.add_zero] at ih
      rw [show nI b + Int32.ofInt 1 = nI (b + 1) from nI_add b 1]
      exact ih
    · rw [cb, i3] at y
      have y' : iO S b = f := (nI_eq (by omega) (by omega)).mp y
      rw [if_pos y'] at ih h1
      rw [cb, i4, sub_nn (by omega), show nI b + Int32.ofInt 1 = nI (b + 1) from nI_add b 1, show iQ S f a + j - iQ S f b - iB S b = iQ S f a + j - (iQ S f b + iB S b) by omega]
      exact ih
    · rw [cb, i3] at y
      have y' : iO S b = f := (nI_eq (by omega) (by omega)).mp y
      rw [if_pos y'] at h1
      rw [cb, i4]
      exact nI_le (by omega) (by omega)
theorem sb_11 (hiw : iw ≤ 256) (hB : ∀ b, b < iw → iO S b < 16 ∧ iB S b ≤ 32 ∧ S.1 115 b = nI (iO S b) ∧ S.1 116 b = nI (iB S b) ∧ S.1 117 b = nI (Wb (iB S) b)) (hq : iQ S f iw ≤ 8192) (hf : f < 16) (hW : Wb (iB S) iw ≤ 8192) (ha : a < iw) (hfa : iO S a = f) (hj : j < iB S a) (kk : Q (some (.int ((S.1 151 (Wb (iB S) a + j) >>> (nI t &&& 31)) &&& 1))) S) : ∀ c b, b + c = a → zW l Gr (zc n w) 168 M_Mo_sentBit (d + 1) 11 [some (.ref 105), some (.int (nI f)), some (.int (nI t)), none, none, some (.int (nI b)), some (.int (nI (iQ S f a + j - iQ S f b)))] [] S Q
  | 0, b, h => by
    have eb : b = a := by omega
    subst eb
    obtain ⟨i1, i2, i3, i4, i5⟩ := hB b ha
    have cb : (nI b).toNatClampNeg = b := nI_clamp (by omega)
    have vb : vp_in (nI b) 256 := vp_in_nI (by omega) (by omega)
    have hWa := Wb_le (bt := iB S) ha
    rw [show iQ S f b + j - iQ S f b = j by omega]
    refine b_Mo_sentBit_11 vb (fun y => absurd (by rw [cb, i3, hfa]) y) (fun _ => b_Mo_sentBit_22 vb (fun _ => b_Mo_sentBit_67 vb (by rw [cb, i5, nI_add]; exact vp_in_nI (by omega) (by omega)) ?_) (fun y => absurd (by rw [cb, i4]; exact (nI_ltI (by omega) (by omega)).mpr hj) y))
    rw [cb, i5, nI_add, nI_clamp (by omega)]
    exact kk
  | c + 1, b, h => by
    obtain ⟨i1, i2, i3, i4, i5⟩ := hB b (by omega)
    have cb : (nI b).toNatClampNeg = b := nI_clamp (by omega)
    have vb : vp_in (nI b) 256 := vp_in_nI (by omega) (by omega)
    have h1 := iq_mono (S := S) (f := f) (b := b + 1) (a := a) (by omega)
    have h2 := iq_mono (S := S) (f := f) (b := a) (a := iw) (by omega)
    have i2a := (hB a ha).2.1
    have ih := sb_11 hiw hB hq hf hW ha hfa hj kk c (b + 1) (by omega)
    rw [iq_s] at h1 ih
    by_cases y' : iO S b = f
    · rw [if_pos y'] at ih h1
      have e : S.1 115 (nI b).toNatClampNeg = nI f := by rw [cb, i3, y']
      refine b_Mo_sentBit_11 vb (fun y => absurd e y) (fun _ => b_Mo_sentBit_22 vb (fun z => ?_) (fun _ => b_Mo_sentBit_34 vb (fun y => absurd e y) (fun _ => b_Mo_sentBit_47 vb (b_Mo_sentBit_58 ?_))))
      · rw [cb, i4] at z
        have := (nI_ltI (by omega) (by omega)).mp z
        omega
      · rw [cb, i4, sub_nn (by omega), show nI b + Int32.ofInt 1 = nI (b + 1) from nI_add b 1, show iQ S f a + j - iQ S f b - iB S b = iQ S f a + j - (iQ S f b + iB S b) by omega]
        exact ih
    · rw [if_neg y', Nat.add_zero] at ih
      have e : ¬ S.1 115 (nI b).toNatClampNeg = nI f := by rw [cb, i3]; exact fun q => y' ((nI_eq (by omega) (by omega)).mp q)
      refine b_Mo_sentBit_11 vb (fun _ => b_Mo_sentBit_34 vb (fun _ => b_Mo_sentBit_57 (b_Mo_sentBit_58 ?_)) (fun y => absurd y e)) (fun y => absurd y e)
      rw [show nI b + Int32.ofInt 1 = nI (b + 1) from nI_add b 1, show nI (iQ S f a + j - iQ S f b) - 0 = nI (iQ S f a + j - iQ S f b) from Int32.sub_zero _]
      exact ih
theorem sb_177 (hno : no ≤ 444) (hm : ∀ t, t < no → bo t ≤ bo (t + 1)) (hb : bo no ≤ 14208) (h120 : ∀ t, t < no → S.1 120 t = nI (bo (t + 1) - bo t)) (hk : k < no) (h1 : bo k ≤ i) (h2 : i < bo (k + 1)) (kk : zW l Gr (zc n w) 168 M_Mo_sentBit (d + 1) 207 [some (.ref 105), some (.int x1), none, none, none, some (.int (nI k)), some (.int (nI (i - bo k)))] [] S Q) : ∀ c b, b + c = k → zW l Gr (zc n w) 168 M_Mo_sentBit (d + 1) 177 [some (.ref 105), some (.int x1), none, none, none, some (.int (nI b)), some (.int (nI (i - bo b)))] [] S Q
  | 0, b, h => by
    have eb : b = k := by omega
    subst eb
    have q1 := bo_mono hm (b := b + 1) (a := no) (by omega) (Nat.le_refl _)
    exact b_Mo_sentBit_177 (vp_in_nI (by omega) (by omega)) (fun _ => kk) (fun y => absurd (by rw [nI_clamp (by omega), h120 b hk]; exact (nI_ltI (by omega) (by omega)).mpr (by omega)) y)
  | c + 1, b, h => by
    have cb : (nI b).toNatClampNeg = b := nI_clamp (by omega)
    have q1 := bo_mono hm (b := k + 1) (a := no) (by omega) (Nat.le_refl _)
    have q2 := bo_mono hm (b := b + 1) (a := k) (by omega) (by omega)
    have q3 := hm b (by omega)
    have ih := sb_177 hno hm hb h120 hk h1 h2 kk c (b + 1) (by omega)
    refine b_Mo_sentBit_177 (vp_in_nI (by omega) (by omega)) (fun y => ?_) (fun _ => b_Mo_sentBit_189 (vp_in_nI (by omega) (by omega)) ?_)
    · rw [cb, h120 b (by omega)] at y
      have := (nI_ltI (by omega) (by omega)).mp y
      omega
    · rw [cb, h120 b (by omega), sub_nn (by omega), show nI b + Int32.ofInt 1 = nI (b + 1) from nI_add b 1, show i - bo b - (bo (b + 1) - bo b) = i - bo (b + 1) by omega]
      exact ih
end BTS
