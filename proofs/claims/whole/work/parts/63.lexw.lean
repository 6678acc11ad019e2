theorem kc_all : ∀ j, j < 58 → ((oTx0 j &&& 255).toUInt32 % 65536).toInt32 = oTx0 j := by decide +kernel
theorem wd_iff {b : Nat → Int32} {p e : Nat} (K : List Int32) : wd b p e = K ↔ (e - p = K.length ∧ ∀ q, q < K.length → b (p + q) = K.getD q 0) := by
  unfold wd
  constructor
  · intro h
    have hl : e - p = K.length := by rw [← h, List.length_map, List.length_range]
    refine ⟨hl, fun q hq => ?_⟩
    rw [← h]
    simp [List.getD, List.getElem?_map, List.getElem?_range (show q < e - p by omega)]
  · intro h
    apply List.ext_getElem?
    intro i
    by_cases hi : i < K.length
    · rw [List.getElem?_map, List.getElem?_range (by omega)]
      have := h.2 i hi
      rw [List.getD, List.getElem?_eq_getElem hi] at this
      rw [List.getElem?_eq_getElem hi]
      exact congrArg some this
    · rw [List.getElem?_eq_none (by rw [List.length_map, List.length_range]; omega), List.getElem?_eq_none (by omega)]
theorem wd_len {b : Nat → Int32} {p e : Nat} : (wd b p e).length = e - p := by
  unfold wd
  rw [List.length_map, List.length_range]
theorem wk_long {s : List Int32} (h : 6 < s.length) : wk s = 1 := by
  have ne : ∀ K : List Int32, K.length ≤ 6 → ¬ s = K := fun K hK e => by rw [e] at h; omega
  unfold wk
  rw [if_neg (ne kw0 (by decide)), if_neg (ne kw1 (by decide)), if_neg (ne kw2 (by decide)), if_neg (ne kw3 (by decide)), if_neg (ne kw4 (by decide)), if_neg (ne kw5 (by decide)), if_neg (ne kw6 (by decide)), if_neg (ne kw7 (by decide)), if_neg (ne kw8 (by decide)), if_neg (ne kw9 (by decide)), if_neg (ne kw10 (by decide)), if_neg (ne kw11 (by decide)), if_neg (ne kw12 (by decide))]
theorem wk_eq (s : List Int32) : (wk s = 200 ∧ s = kw0) ∨ (wk s = 201 ∧ s = kw1) ∨ (wk s = 202 ∧ s = kw2) ∨ (wk s = 203 ∧ s = kw3) ∨ (wk s = 204 ∧ s = kw4) ∨ (wk s = 205 ∧ s = kw5) ∨ (wk s = 206 ∧ s = kw6) ∨ (wk s = 207 ∧ s = kw7) ∨ (wk s = 208 ∧ s = kw8) ∨ (wk s = 209 ∧ s = kw9) ∨ (wk s = 210 ∧ s = kw10) ∨ (wk s = 211 ∧ s = kw11) ∨ (wk s = 212 ∧ s = kw12) ∨ (wk s = 1 ∧ ¬ s = kw0 ∧ ¬ s = kw1 ∧ ¬ s = kw2 ∧ ¬ s = kw3 ∧ ¬ s = kw4 ∧ ¬ s = kw5 ∧ ¬ s = kw6 ∧ ¬ s = kw7 ∧ ¬ s = kw8 ∧ ¬ s = kw9 ∧ ¬ s = kw10 ∧ ¬ s = kw11 ∧ ¬ s = kw12) := by
  by_cases u0 : s = kw0
  · exact Or.inl (⟨by unfold wk; rw [if_pos u0], u0⟩)
  by_cases u1 : s = kw1
  · exact Or.inr (Or.inl (⟨by unfold wk; rw [if_neg u0, if_pos u1], u1⟩))
  by_cases u2 : s = kw2
  · exact Or.inr (Or.inr (Or.inl (⟨by unfold wk; rw [if_neg u0, if_neg u1, if_pos u2], u2⟩)))
  by_cases u3 : s = kw3
  · exact Or.inr (Or.inr (Or.inr (Or.inl (⟨by unfold wk; rw [if_neg u0, if_neg u1, if_neg u2, if_pos u3], u3⟩))))
  by_cases u4 : s = kw4
  · exact Or.inr (Or.inr (Or.inr (Or.inr (Or.inl (⟨by unfold wk; rw [if_neg u0, if_neg u1, if_neg u2, if_neg u3, if_pos u4], u4⟩)))))
  by_cases u5 : s = kw5
  · exact Or.inr (Or.inr (Or.inr (Or.inr (Or.inr (Or.inl (⟨by unfold wk; rw [if_neg u0, if_neg u1, if_neg u2, if_neg u3, if_neg u4, if_pos u5], u5⟩))))))
  by_cases u6 : s = kw6
  · exact Or.inr (Or.inr (Or.inr (Or.inr (Or.inr (Or.inr (Or.inl (⟨by unfold wk; rw [if_neg u0, if_neg u1, if_neg u2, if_neg u3, if_neg u4, if_neg u5, if_pos u6], u6⟩)))))))
  by_cases u7 : s = kw7
  · exact Or.inr (Or.inr (Or.inr (Or.inr (Or.inr (Or.inr (Or.inr (Or.inl (⟨by unfold wk; rw [if_neg u0, if_neg u1, if_neg u2, if_neg u3, if_neg u4, if_neg u5, if_neg u6, if_pos u7], u7⟩))))))))
  by_cases u8 : s = kw8
  · exact Or.inr (Or.inr (Or.inr (Or.inr (Or.inr (Or.inr (Or.inr (Or.inr (Or.inl (⟨by unfold wk; rw [if_neg u0, if_neg u1, if_neg u2, if_neg u3, if_neg u4, if_neg u5, if_neg u6, if_neg u7, if_pos u8], u8⟩)))))))))
  by_cases u9 : s = kw9
  · exact Or.inr (Or.inr (Or.inr (Or.inr (Or.inr (Or.inr (Or.inr (Or.inr (Or.inr (Or.inl (⟨by unfold wk; rw [if_neg u0, if_neg u1, if_neg u2, if_neg u3, if_neg u4, if_neg u5, if_neg u6, if_neg u7, if_neg u8, if_pos u9], u9⟩))))))))))
  by_cases u10 : s = kw10
  · exact Or.inr (Or.inr (Or.inr (Or.inr (Or.inr (Or.inr (Or.inr (Or.inr (Or.inr (Or.inr (Or.inl (⟨by unfold wk; rw [if_neg u0, if_neg u1, if_neg u2, if_neg u3, if_neg u4, if_neg u5, if_neg u6, if_neg u7, if_neg u8, if_neg u9, if_pos u10], u10⟩)))))))))))
  by_cases u11 : s = kw11
  · exact Or.inr (Or.inr (Or.inr (Or.inr (Or.inr (Or.inr (Or.inr (Or.inr (Or.inr (Or.inr (Or.inr (Or.inl (⟨by unfold wk; rw [if_neg u0, if_neg u1, if_neg u2, if_neg u3, if_neg u4, if_neg u5, if_neg u6, if_neg u7, if_neg u8, if_neg u9, if_neg u10, if_pos u11], u11⟩))))))))))))
  by_cases u12 : s = kw12
  · exact Or.inr (Or.inr (Or.inr (Or.inr (Or.inr (Or.inr (Or.inr (Or.inr (Or.inr (Or.inr (Or.inr (Or.inr (Or.inl (⟨by unfold wk; rw [if_neg u0, if_neg u1, if_neg u2, if_neg u3, if_neg u4, if_neg u5, if_neg u6, if_neg u7, if_neg u8, if_neg u9, if_neg u10, if_neg u11, if_pos u12], u12⟩)))))))))))))
  exact Or.inr (Or.inr (Or.inr (Or.inr (Or.inr (Or.inr (Or.inr (Or.inr (Or.inr (Or.inr (Or.inr (Or.inr (Or.inr (⟨by unfold wk; rw [if_neg u0, if_neg u1, if_neg u2, if_neg u3, if_neg u4, if_neg u5, if_neg u6, if_neg u7, if_neg u8, if_neg u9, if_neg u10, if_neg u11, if_neg u12], u0, u1, u2, u3, u4, u5, u6, u7, u8, u9, u10, u11, u12⟩)))))))))))))
theorem wk_0 {s : List Int32} : wk s = 200 ↔ s = kw0 := by
  constructor
  · intro h
    rcases wk_eq s with ⟨e, u⟩ | ⟨e, u⟩ | ⟨e, u⟩ | ⟨e, u⟩ | ⟨e, u⟩ | ⟨e, u⟩ | ⟨e, u⟩ | ⟨e, u⟩ | ⟨e, u⟩ | ⟨e, u⟩ | ⟨e, u⟩ | ⟨e, u⟩ | ⟨e, u⟩ | ⟨e, u⟩
    · exact u
    · exact absurd (h.symm.trans e) (by decide)
    · exact absurd (h.symm.trans e) (by decide)
    · exact absurd (h.symm.trans e) (by decide)
    · exact absurd (h.symm.trans e) (by decide)
    · exact absurd (h.symm.trans e) (by decide)
    · exact absurd (h.symm.trans e) (by decide)
    · exact absurd (h.symm.trans e) (by decide)
    · exact absurd (h.symm.trans e) (by decide)
    · exact absurd (h.symm.trans e) (by decide)
    · exact absurd (h.symm.trans e) (by decide)
    · exact absurd (h.symm.trans e) (by decide)
    · exact absurd (h.symm.trans e) (by decide)
    · exact absurd (h.symm.trans e) (by decide)
  · intro h; rw [h]; decide
theorem wk_1 {s : List Int32} : wk s = 201 ↔ s = kw1 := by
  constructor
  · intro h
    rcases wk_eq s with ⟨e, u⟩ | ⟨e, u⟩ | ⟨e, u⟩ | ⟨e, u⟩ | ⟨e, u⟩ | ⟨e, u⟩ | ⟨e, u⟩ | ⟨e, u⟩ | ⟨e, u⟩ | ⟨e, u⟩ | ⟨e, u⟩ | ⟨e, u⟩ | ⟨e, u⟩ | ⟨e, u⟩
    · exact absurd (h.symm.trans e) (by decide)
    · exact u
    · exact absurd (h.symm.trans e) (by decide)
    · exact absurd (h.symm.trans e) (by decide)
    · exact absurd (h.symm.trans e) (by decide)
    · exact absurd (h.symm.trans e) (by decide)
    · exact absurd (h.symm.trans e) (by decide)
    · exact absurd (h.symm.trans e) (by decide)
    · exact absurd (h.symm.trans e) (by decide)
    · exact absurd (h.symm.trans e) (by decide)
    · exact absurd (h.symm.trans e) (by decide)
    · exact absurd (h.symm.trans e) (by decide)
    · exact absurd (h.symm.trans e) (by decide)
    · exact absurd (h.symm.trans e) (by decide)
  · intro h; rw [h]; decide
theorem wk_2 {s : List Int32} : wk s = 202 ↔ s = kw2 := by
  constructor
  · intro h
    rcases wk_eq s with ⟨e, u⟩ | ⟨e, u⟩ | ⟨e, u⟩ | ⟨e, u⟩ | ⟨e, u⟩ | ⟨e, u⟩ | ⟨e, u⟩ | ⟨e, u⟩ | ⟨e, u⟩ | ⟨e, u⟩ | ⟨e, u⟩ | ⟨e, u⟩ | ⟨e, u⟩ | ⟨e, u⟩
    · exact absurd (h.symm.trans e) (by decide)
    · exact absurd (h.symm.trans e) (by decide)
    · exact u
    · exact absurd (h.symm.trans e) (by decide)
    · exact absurd (h.symm.trans e) (by decide)
    · exact absurd (h.symm.trans e) (by decide)
    · exact absurd (h.symm.trans e) (by decide)
    · exact absurd (h.symm.trans e) (by decide)
    · exact absurd (h.symm.trans e) (by decide)
    · exact absurd (h.symm.trans e) (by decide)
    · exact absurd (h.symm.trans e) (by decide)
    · exact absurd (h.symm.trans e) (by decide)
    · exact absurd (h.symm.trans e) (by decide)
    · exact absurd (h.symm.trans e) (by decide)
  · intro h; rw [h]; decide
theorem wk_3 {s : List Int32} : wk s = 203 ↔ s = kw3 := by
  constructor
  · intro h
    rcases wk_eq s with ⟨e, u⟩ | ⟨e, u⟩ | ⟨e, u⟩ | ⟨e, u⟩ | ⟨e, u⟩ | ⟨e, u⟩ | ⟨e, u⟩ | ⟨e, u⟩ | ⟨e, u⟩ | ⟨e, u⟩ | ⟨e, u⟩ | ⟨e, u⟩ | ⟨e, u⟩ | ⟨e, u⟩
    · exact absurd (h.symm.trans e) (by decide)
    · exact absurd (h.symm.trans e) (by decide)
    · exact absurd (h.symm.trans e) (by decide)
    · exact u
    · exact absurd (h.symm.trans e) (by decide)
    · exact absurd (h.symm.trans e) (by decide)
    · exact absurd (h.symm.trans e) (by decide)
    · exact absurd (h.symm.trans e) (by decide)
    · exact absurd (h.symm.trans e) (by decide)
    · exact absurd (h.symm.trans e) (by decide)
    · exact absurd (h.symm.trans e) (by decide)
    · exact absurd (h.symm.trans e) (by decide)
    · exact absurd (h.symm.trans e) (by decide)
    · exact absurd (h.symm.trans e) (by decide)
  · intro h; rw [h]; decide
theorem wk_4 {s : List Int32} : wk s = 204 ↔ s = kw4 := by
  constructor
  · intro h
    rcases wk_eq s with ⟨e, u⟩ | ⟨e, u⟩ | ⟨e, u⟩ | ⟨e, u⟩ | ⟨e, u⟩ | ⟨e, u⟩ | ⟨e, u⟩ | ⟨e, u⟩ | ⟨e, u⟩ | ⟨e, u⟩ | ⟨e, u⟩ | ⟨e, u⟩ | ⟨e, u⟩ | ⟨e, u⟩
    · exact absurd (h.symm.trans e) (by decide)
    · exact absurd (h.symm.trans e) (by decide)
    · exact absurd (h.symm.trans e) (by decide)
    · exact absurd (h.symm.trans e) (by decide)
    · exact u
    · exact absurd (h.symm.trans e) (by decide)
    · exact absurd (h.symm.trans e) (by decide)
    · exact absurd (h.symm.trans e) (by decide)
    · exact absurd (h.symm.trans e) (by decide)
    · exact absurd (h.symm.trans e) (by decide)
    · exact absurd (h.symm.trans e) (by decide)
    · exact absurd (h.symm.trans e) (by decide)
    · exact absurd (h.symm.trans e) (by decide)
    · exact absurd (h.symm.trans e) (by decide)
  · intro h; rw [h]; decide
theorem wk_5 {s : List Int32} : wk s = 205 ↔ s = kw5 := by
  constructor
  · intro h
    rcases wk_eq s with ⟨e, u⟩ | ⟨e, u⟩ | ⟨e, u⟩ | ⟨e, u⟩ | ⟨e, u⟩ | ⟨e, u⟩ | ⟨e, u⟩ | ⟨e, u⟩ | ⟨e, u⟩ | ⟨e, u⟩ | ⟨e, u⟩ | ⟨e, u⟩ | ⟨e, u⟩ | ⟨e, u⟩
    · exact absurd (h.symm.trans e) (by decide)
    · exact absurd (h.symm.trans e) (by decide)
    · exact absurd (h.symm.trans e) (by decide)
    · exact absurd (h.symm.trans e) (by decide)
    · exact absurd (h.symm.trans e) (by decide)
    · exact u
    · exact absurd (h.symm.trans e) (by decide)
    · exact absurd (h.symm.trans e) (by decide)
    · exact absurd (h.symm.trans e) (by decide)
    · exact absurd (h.symm.trans e) (by decide)
    · exact absurd (h.symm.trans e) (by decide)
    · exact absurd (h.symm.trans e) (by decide)
    · exact absurd (h.symm.trans e) (by decide)
    · exact absurd (h.symm.trans e) (by decide)
  · intro h; rw [h]; decide
theorem wk_6 {s : List Int32} : wk s = 206 ↔ s = kw6 := by
  constructor
  · intro h
    rcases wk_eq s with ⟨e, u⟩ | ⟨e, u⟩ | ⟨e, u⟩ | ⟨e, u⟩ | ⟨e, u⟩ | ⟨e, u⟩ | ⟨e, u⟩ | ⟨e, u⟩ | ⟨e, u⟩ | ⟨e, u⟩ | ⟨e, u⟩ | ⟨e, u⟩ | ⟨e, u⟩ | ⟨e, u⟩
    · exact absurd (h.symm.trans e) (by decide)
    · exact absurd (h.symm.trans e) (by decide)
    · exact absurd (h.symm.trans e) (by decide)
    · exact absurd (h.symm.trans e) (by decide)
    · exact absurd (h.symm.trans e) (by decide)
    · exact absurd (h.symm.trans e) (by decide)
    · exact u
    · exact absurd (h.symm.trans e) (by decide)
    · exact absurd (h.symm.trans e) (by decide)
    · exact absurd (h.symm.trans e) (by decide)
    · exact absurd (h.symm.trans e) (by decide)
    · exact absurd (h.symm.trans e) (by decide)
    · exact absurd (h.symm.trans e) (by decide)
    · exact absurd (h.symm.trans e) (by decide)
  · intro h; rw [h]; decide
theorem wk_7 {s : List Int32} : wk s = 207 ↔ s = kw7 := by
  constructor
  · intro h
    rcases wk_eq s with ⟨e, u⟩ | ⟨e, u⟩ | ⟨e, u⟩ | ⟨e, u⟩ | ⟨e, u⟩ | ⟨e, u⟩ | ⟨e, u⟩ | ⟨e, u⟩ | ⟨e, u⟩ | ⟨e, u⟩ | ⟨e, u⟩ | ⟨e, u⟩ | ⟨e, u⟩ | ⟨e, u⟩
    · exact absurd (h.symm.trans e) (by decide)
    · exact absurd (h.symm.trans e) (by decide)
    · exact absurd (h.symm.trans e) (by decide)
    · exact absurd (h.symm.trans e) (by decide)
    · exact absurd (h.symm.trans e) (by decide)
    · exact absurd (h.symm.trans e) (by decide)
    · exact absurd (h.symm.trans e) (by decide)
    · exact u
    · exact absurd (h.symm.trans e) (by decide)
    · exact absurd (h.symm.trans e) (by decide)
    · exact absurd (h.symm.trans e) (by decide)
    · exact absurd (h.symm.trans e) (by decide)
    · exact absurd (h.symm.trans e) (by decide)
    · exact absurd (h.symm.trans e) (by decide)
  · intro h; rw [h]; decide
theorem wk_8 {s : List Int32} : wk s = 208 ↔ s = kw8 := by
  constructor
  · intro h
    rcases wk_eq s with ⟨e, u⟩ | ⟨e, u⟩ | ⟨e, u⟩ | ⟨e, u⟩ | ⟨e, u⟩ | ⟨e, u⟩ | ⟨e, u⟩ | ⟨e, u⟩ | ⟨e, u⟩ | ⟨e, u⟩ | ⟨e, u⟩ | ⟨e, u⟩ | ⟨e, u⟩ | ⟨e, u⟩
    · exact absurd (h.symm.trans e) (by decide)
    · exact absurd (h.symm.trans e) (by decide)
    · exact absurd (h.symm.trans e) (by decide)
    · exact absurd (h.symm.trans e) (by decide)
    · exact absurd (h.symm.trans e) (by decide)
    · exact absurd (h.symm.trans e) (by decide)
    · exact absurd (h.symm.trans e) (by decide)
    · exact absurd (h.symm.trans e) (by decide)
    · exact u
    · exact absurd (h.symm.trans e) (by decide)
    · exact absurd (h.symm.trans e) (by decide)
    · exact absurd (h.symm.trans e) (by decide)
    · exact absurd (h.symm.trans e) (by decide)
    · exact absurd (h.symm.trans e) (by decide)
  · intro h; rw [h]; decide
theorem wk_9 {s : List Int32} : wk s = 209 ↔ s = kw9 := by
  constructor
  · intro h
    rcases wk_eq s with ⟨e, u⟩ | ⟨e, u⟩ | ⟨e, u⟩ | ⟨e, u⟩ | ⟨e, u⟩ | ⟨e, u⟩ | ⟨e, u⟩ | ⟨e, u⟩ | ⟨e, u⟩ | ⟨e, u⟩ | ⟨e, u⟩ | ⟨e, u⟩ | ⟨e, u⟩ | ⟨e, u⟩
    · exact absurd (h.symm.trans e) (by decide)
    · exact absurd (h.symm.trans e) (by decide)
    · exact absurd (h.symm.trans e) (by decide)
    · exact absurd (h.symm.trans e) (by decide)
    · exact absurd (h.symm.trans e) (by decide)
    · exact absurd (h.symm.trans e) (by decide)
    · exact absurd (h.symm.trans e) (by decide)
    · exact absurd (h.symm.trans e) (by decide)
    · exact absurd (h.symm.trans e) (by decide)
    · exact u
    · exact absurd (h.symm.trans e) (by decide)
    · exact absurd (h.symm.trans e) (by decide)
    · exact absurd (h.symm.trans e) (by decide)
    · exact absurd (h.symm.trans e) (by decide)
  · intro h; rw [h]; decide
theorem wk_10 {s : List Int32} : wk s = 210 ↔ s = kw10 := by
  constructor
  · intro h
    rcases wk_eq s with ⟨e, u⟩ | ⟨e, u⟩ | ⟨e, u⟩ | ⟨e, u⟩ | ⟨e, u⟩ | ⟨e, u⟩ | ⟨e, u⟩ | ⟨e, u⟩ | ⟨e, u⟩ | ⟨e, u⟩ | ⟨e, u⟩ | ⟨e, u⟩ | ⟨e, u⟩ | ⟨e, u⟩
    · exact absurd (h.symm.trans e) (by decide)
    · exact absurd (h.symm.trans e) (by decide)
    · exact absurd (h.symm.trans e) (by decide)
    · exact absurd (h.symm.trans e) (by decide)
    · exact absurd (h.symm.trans e) (by decide)
    · exact absurd (h.symm.trans e) (by decide)
    · exact absurd (h.symm.trans e) (by decide)
    · exact absurd (h.symm.trans e) (by decide)
    · exact absurd (h.symm.trans e) (by decide)
    · exact absurd (h.symm.trans e) (by decide)
    · exact u
    · exact absurd (h.symm.trans e) (by decide)
    · exact absurd (h.symm.trans e) (by decide)
    · exact absurd (h.symm.trans e) (by decide)
  · intro h; rw [h]; decide
theorem wk_11 {s : List Int32} : wk s = 211 ↔ s = kw11 := by
  constructor
  · intro h
    rcases wk_eq s with ⟨e, u⟩ | ⟨e, u⟩ | ⟨e, u⟩ | ⟨e, u⟩ | ⟨e, u⟩ | ⟨e, u⟩ | ⟨e, u⟩ | ⟨e, u⟩ | ⟨e, u⟩ | ⟨e, u⟩ | ⟨e, u⟩ | ⟨e, u⟩ | ⟨e, u⟩ | ⟨e, u⟩
    · exact absurd (h.symm.trans e) (by decide)
    · exact absurd (h.symm.trans e) (by decide)
    · exact absurd (h.symm.trans e) (by decide)
    · exact absurd (h.symm.trans e) (by decide)
    · exact absurd (h.symm.trans e) (by decide)
    · exact absurd (h.symm.trans e) (by decide)
    · exact absurd (h.symm.trans e) (by decide)
    · exact absurd (h.symm.trans e) (by decide)
    · exact absurd (h.symm.trans e) (by decide)
    · exact absurd (h.symm.trans e) (by decide)
    · exact absurd (h.symm.trans e) (by decide)
    · exact u
    · exact absurd (h.symm.trans e) (by decide)
    · exact absurd (h.symm.trans e) (by decide)
  · intro h; rw [h]; decide
theorem wk_12 {s : List Int32} : wk s = 212 ↔ s = kw12 := by
  constructor
  · intro h
    rcases wk_eq s with ⟨e, u⟩ | ⟨e, u⟩ | ⟨e, u⟩ | ⟨e, u⟩ | ⟨e, u⟩ | ⟨e, u⟩ | ⟨e, u⟩ | ⟨e, u⟩ | ⟨e, u⟩ | ⟨e, u⟩ | ⟨e, u⟩ | ⟨e, u⟩ | ⟨e, u⟩ | ⟨e, u⟩
    · exact absurd (h.symm.trans e) (by decide)
    · exact absurd (h.symm.trans e) (by decide)
    · exact absurd (h.symm.trans e) (by decide)
    · exact absurd (h.symm.trans e) (by decide)
    · exact absurd (h.symm.trans e) (by decide)
    · exact absurd (h.symm.trans e) (by decide)
    · exact absurd (h.symm.trans e) (by decide)
    · exact absurd (h.symm.trans e) (by decide)
    · exact absurd (h.symm.trans e) (by decide)
    · exact absurd (h.symm.trans e) (by decide)
    · exact absurd (h.symm.trans e) (by decide)
    · exact absurd (h.symm.trans e) (by decide)
    · exact u
    · exact absurd (h.symm.trans e) (by decide)
  · intro h; rw [h]; decide
theorem wk_n {s : List Int32} : wk s = 1 ↔ (¬ s = kw0 ∧ ¬ s = kw1 ∧ ¬ s = kw2 ∧ ¬ s = kw3 ∧ ¬ s = kw4 ∧ ¬ s = kw5 ∧ ¬ s = kw6 ∧ ¬ s = kw7 ∧ ¬ s = kw8 ∧ ¬ s = kw9 ∧ ¬ s = kw10 ∧ ¬ s = kw11 ∧ ¬ s = kw12) := by
  constructor
  · intro h
    refine ⟨?_, ?_, ?_, ?_, ?_, ?_, ?_, ?_, ?_, ?_, ?_, ?_, ?_⟩ <;> (intro z; subst z; exact absurd h (by decide))
  · intro h
    obtain ⟨h0, h1, h2, h3, h4, h5, h6, h7, h8, h9, h10, h11, h12⟩ := h
    unfold wk
    rw [if_neg h0, if_neg h1, if_neg h2, if_neg h3, if_neg h4, if_neg h5, if_neg h6, if_neg h7, if_neg h8, if_neg h9, if_neg h10, if_neg h11, if_neg h12]
section LK
variable {l : Launch} {Gr : zG} {n w : Nat} {d : Nat} {S : zS}
theorem wk_scan (hg : ip_gk (lg_tbl, vwCl, Gr)) (ho : ip_old (lg_tbl, vwCl, Gr)) {b : Nat → Int32} {p z s m : Nat} {x2 : Int32} (hb : S.1 2 = b) (h3 : S.1 38 3 = nI p) (hp : p + z ≤ 4000) (hz : z ≤ 6) (hs : s + m < 58) (hK : ∀ q, q < m → ¬ oTx0 (s + q) = 32) (hm : oTx0 (s + m) = 32) {Q : Option Value → zS → Prop}
    (hy : (z = m ∧ ∀ q, q < m → b (p + q) = oTx0 (s + q)) → Q (some (.int x2)) S)
    (hn : ¬ (z = m ∧ ∀ q, q < m → b (p + q) = oTx0 (s + q)) → zW l Gr (zc n w) 168 M_Words_wordKind (d + 4) 27 [some (.ref 70), some (.int (nI z)), some (.int (x2 + Int32.ofInt 1)), some (.int 0), some (.int (nI (s + m + 1))), none] [] S Q) :
    ∀ (j r : Nat) (x3 : Int32), r + j = m → ((x3 = nI r ∧ ∀ q, q < r → q < z ∧ b (p + q) = oTx0 (s + q)) ∨ (x3 = -1 ∧ ¬ ∀ q, q < r → q < z ∧ b (p + q) = oTx0 (s + q))) → zW l Gr (zc n w) 168 M_Words_wordKind (d + 4) 27 [some (.ref 70), some (.int (nI z)), some (.int x2), some (.int x3), some (.int (nI (s + r))), none] [] S Q
  | 0, r, x3, h, hx => by
    have er : r = m := by omega
    subst er
    refine b_Words_wordKind_27 hg ho (fun q => absurd q (nI_ge (by omega) (by omega))) (fun _ => b_Words_wordKind_37 hg ho (vp_in_nI (by omega) (by omega)) (fun q => ?_) (fun q => ?_))
    · rw [nI_clamp (by omega), kc_all _ (by omega)] at q
      exact absurd hm q
    · refine b_Words_wordKind_53 (fun q1 => b_Words_wordKind_60 (b_Words_wordKind_101 ?_)) (fun q1 => b_Words_wordKind_58 (hy ?_))
      · rw [show nI (s + r) + Int32.ofInt 1 = nI (s + r + 1) from nI_1 _]
        apply hn
        rintro ⟨rfl, hq⟩
        rcases hx with ⟨e, -⟩ | ⟨-, hx⟩
        · exact q1 e
        · exact hx (fun q h => ⟨h, hq q h⟩)
      · rcases hx with ⟨e, hx⟩ | ⟨e, -⟩
        · rw [e] at q1
          have : r = z := (nI_eq (by omega) (by omega)).mp q1
          exact ⟨this.symm, fun q h => (hx q h).2⟩
        · rw [e] at q1
          exact absurd (show (-1 : Int32) < 0 by decide) (by rw [q1]; exact nI_pos (by omega))
  | j + 1, r, x3, h, hx => by
    have key : ∀ x : Int32, ((x = nI (r + 1) ∧ ∀ q, q < r + 1 → q < z ∧ b (p + q) = oTx0 (s + q)) ∨ (x = -1 ∧ ¬ ∀ q, q < r + 1 → q < z ∧ b (p + q) = oTx0 (s + q))) → zW l Gr (zc n w) 168 M_Words_wordKind (d + 4) 101 [some (.ref 70), some (.int (nI z)), some (.int x2), some (.int x), some (.int (nI (s + r))), none] [] S Q := fun x hx' => by
      refine b_Words_wordKind_101 ?_
      rw [show nI (s + r) + Int32.ofInt 1 = nI (s + (r + 1)) from nI_1 _]
      exact wk_scan hg ho hb h3 hp hz hs hK hm hy hn j (r + 1) x (by omega) hx'
    have bad : (¬ ∀ q, q < r + 1 → q < z ∧ b (p + q) = oTx0 (s + q)) → zW l Gr (zc n w) 168 M_Words_wordKind (d + 4) 99 [some (.ref 70), some (.int (nI z)), some (.int x2), none, some (.int (nI (s + r))), none] [] S Q := fun hx' => b_Words_wordKind_99 (key (-1) (Or.inr ⟨rfl, hx'⟩))
    refine b_Words_wordKind_27 hg ho (fun q => absurd q (nI_ge (by omega) (by omega))) (fun _ => b_Words_wordKind_37 hg ho (vp_in_nI (by omega) (by omega)) (fun q => ?_) (fun q => ?_))
    · rw [nI_clamp (by omega), kc_all _ (by omega)] at q ⊢
      rcases hx with ⟨e, hx⟩ | ⟨e, hx⟩
      · rw [e]
        refine b_Words_wordKind_68 (fun q1 => absurd q1 (nI_pos (by omega))) (fun _ => b_Words_wordKind_72 (fun q2 => bad (fun y => ?_)) (fun q2 => ?_))
        · have := (nI_leI (by omega) (by omega)).mp q2
          have := (y r (by omega)).1
          omega
        · have hrz : r < z := Nat.lt_of_not_le (fun y => q2 (nI_le y (by omega)))
          have ec : S.1 2 ((S.1 38 3 + nI r).toNatClampNeg) = b (p + r) := by rw [h3, nI_add, nI_clamp (by omega), hb]
          refine b_Words_wordKind_77 (by rw [h3, nI_add]; exact vp_in_nI (by omega) (by omega)) (fun q3 => bad (fun y => ?_)) (fun q3 => b_Words_wordKind_93 ?_)
          · rw [ec] at q3
            exact q3 (y r (by omega)).2
          · rw [show nI r + Int32.ofInt 1 = nI (r + 1) from nI_1 _]
            rw [ec] at q3
            refine key _ (Or.inl ⟨rfl, fun q hq => ?_⟩)
            by_cases eq : q = r
            · subst eq; exact ⟨hrz, q3⟩
            · exact hx q (by omega)
      · rw [e]
        exact b_Words_wordKind_68 (fun _ => bad (fun y => hx (fun q hq => y q (by omega)))) (fun q1 => absurd (show (-1 : Int32) < 0 by decide) q1)
    · rw [nI_clamp (by omega), kc_all _ (by omega)] at q
      exact absurd q (hK r (by omega))
theorem wk_word (hg : ip_gk (lg_tbl, vwCl, Gr)) (ho : ip_old (lg_tbl, vwCl, Gr)) {b : Nat → Int32} {p e : Nat} {x2 : Int32} (K : List Int32) (s : Nat) (hK : ∀ q, q < K.length → oTx0 (s + q) = K.getD q 0 ∧ ¬ oTx0 (s + q) = 32) (hm : oTx0 (s + K.length) = 32) (hs : s + K.length < 58) (hb : S.1 2 = b) (h3 : S.1 38 3 = nI p) (hp : p ≤ e) (he : e ≤ 4000) (hz : e - p ≤ 6) {Q : Option Value → zS → Prop}
    (hy : wd b p e = K → Q (some (.int x2)) S)
    (hn : ¬ wd b p e = K → zW l Gr (zc n w) 168 M_Words_wordKind (d + 4) 27 [some (.ref 70), some (.int (nI (e - p))), some (.int (x2 + Int32.ofInt 1)), some (.int 0), some (.int (nI (s + K.length + 1))), none] [] S Q) : zW l Gr (zc n w) 168 M_Words_wordKind (d + 4) 27 [some (.ref 70), some (.int (nI (e - p))), some (.int x2), some (.int 0), some (.int (nI s)), none] [] S Q := by
  have eqv : (e - p = K.length ∧ ∀ q, q < K.length → b (p + q) = oTx0 (s + q)) ↔ wd b p e = K := by
    rw [wd_iff]
    constructor
    · rintro ⟨h1, h2⟩
      exact ⟨h1, fun q hq => by rw [h2 q hq, (hK q hq).1]⟩
    · rintro ⟨h1, h2⟩
      exact ⟨h1, fun q hq => by rw [h2 q hq, (hK q hq).1]⟩
  exact wk_scan hg ho hb h3 (by omega) hz hs (fun q hq => (hK q hq).2) hm (fun y => hy (eqv.mp y)) (fun y => hn (fun z => y (eqv.mpr z))) K.length 0 0 (by omega) (Or.inl ⟨rfl, fun q hq => absurd hq (Nat.not_lt_zero q)⟩)
theorem w_wordKind (hg : ip_gk (lg_tbl, vwCl, Gr)) (ho : ip_old (lg_tbl, vwCl, Gr)) {b : Nat → Int32} {p e : Nat} (hb : S.1 2 = b) (h3 : S.1 38 3 = nI p) (h4 : S.1 38 4 = nI e) (hp : p ≤ e) (he : e ≤ 4000) : zMi l Gr (zc n w) 168 M_Words_wordKind (d + 4) [.ref 70] S (fun v S' => S' = S ∧ v = wk (wd b p e)) := by
  refine e_Words_wordKind (b_Words_wordKind_0 (fun q => b_Words_wordKind_18 ?_) (fun q => b_Words_wordKind_16 ⟨_, rfl, rfl, ?_⟩))
  · rw [h3, h4, pk_sub hp] at q ⊢
    have hz : e - p ≤ 6 := (nI_leI (by omega) (by omega)).mp q
    refine wk_word hg ho kw0 0 (by decide) (by decide) (by decide) hb h3 hp he hz (fun y => ⟨_, rfl, rfl, ?_⟩) (fun u0 => ?_)
    · unfold wk; rw [if_pos y]
    refine wk_word hg ho kw1 6 (by decide) (by decide) (by decide) hb h3 hp he hz (fun y => ⟨_, rfl, rfl, ?_⟩) (fun u1 => ?_)
    · unfold wk; rw [if_neg u0, if_pos y]; first | rfl | decide
    refine wk_word hg ho kw2 9 (by decide) (by decide) (by decide) hb h3 hp he hz (fun y => ⟨_, rfl, rfl, ?_⟩) (fun u2 => ?_)
    · unfold wk; rw [if_neg u0, if_neg u1, if_pos y]; first | rfl | decide
    refine wk_word hg ho kw3 13 (by decide) (by decide) (by decide) hb h3 hp he hz (fun y => ⟨_, rfl, rfl, ?_⟩) (fun u3 => ?_)
    · unfold wk; rw [if_neg u0, if_neg u1, if_neg u2, if_pos y]; first | rfl | decide
    refine wk_word hg ho kw4 17 (by decide) (by decide) (by decide) hb h3 hp he hz (fun y => ⟨_, rfl, rfl, ?_⟩) (fun u4 => ?_)
    · unfold wk; rw [if_neg u0, if_neg u1, if_neg u2, if_neg u3, if_pos y]; first | rfl | decide
    refine wk_word hg ho kw5 21 (by decide) (by decide) (by decide) hb h3 hp he hz (fun y => ⟨_, rfl, rfl, ?_⟩) (fun u5 => ?_)
    · unfold wk; rw [if_neg u0, if_neg u1, if_neg u2, if_neg u3, if_neg u4, if_pos y]; first | rfl | decide
    refine wk_word hg ho kw6 24 (by decide) (by decide) (by decide) hb h3 hp he hz (fun y => ⟨_, rfl, rfl, ?_⟩) (fun u6 => ?_)
    · unfold wk; rw [if_neg u0, if_neg u1, if_neg u2, if_neg u3, if_neg u4, if_neg u5, if_pos y]; first | rfl | decide
    refine wk_word hg ho kw7 27 (by decide) (by decide) (by decide) hb h3 hp he hz (fun y => ⟨_, rfl, rfl, ?_⟩) (fun u7 => ?_)
    · unfold wk; rw [if_neg u0, if_neg u1, if_neg u2, if_neg u3, if_neg u4, if_neg u5, if_neg u6, if_pos y]; first | rfl | decide
    refine wk_word hg ho kw8 32 (by decide) (by decide) (by decide) hb h3 hp he hz (fun y => ⟨_, rfl, rfl, ?_⟩) (fun u8 => ?_)
    · unfold wk; rw [if_neg u0, if_neg u1, if_neg u2, if_neg u3, if_neg u4, if_neg u5, if_neg u6, if_neg u7, if_pos y]; first | rfl | decide
    refine wk_word hg ho kw9 39 (by decide) (by decide) (by decide) hb h3 hp he hz (fun y => ⟨_, rfl, rfl, ?_⟩) (fun u9 => ?_)
    · unfold wk; rw [if_neg u0, if_neg u1, if_neg u2, if_neg u3, if_neg u4, if_neg u5, if_neg u6, if_neg u7, if_neg u8, if_pos y]; first | rfl | decide
    refine wk_word hg ho kw10 43 (by decide) (by decide) (by decide) hb h3 hp he hz (fun y => ⟨_, rfl, rfl, ?_⟩) (fun u10 => ?_)
    · unfold wk; rw [if_neg u0, if_neg u1, if_neg u2, if_neg u3, if_neg u4, if_neg u5, if_neg u6, if_neg u7, if_neg u8, if_neg u9, if_pos y]; first | rfl | decide
    refine wk_word hg ho kw11 47 (by decide) (by decide) (by decide) hb h3 hp he hz (fun y => ⟨_, rfl, rfl, ?_⟩) (fun u11 => ?_)
    · unfold wk; rw [if_neg u0, if_neg u1, if_neg u2, if_neg u3, if_neg u4, if_neg u5, if_neg u6, if_neg u7, if_neg u8, if_neg u9, if_neg u10, if_pos y]; first | rfl | decide
    refine wk_word hg ho kw12 52 (by decide) (by decide) (by decide) hb h3 hp he hz (fun y => ⟨_, rfl, rfl, ?_⟩) (fun u12 => ?_)
    · unfold wk; rw [if_neg u0, if_neg u1, if_neg u2, if_neg u3, if_neg u4, if_neg u5, if_neg u6, if_neg u7, if_neg u8, if_neg u9, if_neg u10, if_neg u11, if_pos y]; first | rfl | decide
    refine b_Words_wordKind_27 hg ho (fun _ => b_Words_wordKind_107 ⟨_, rfl, rfl, ?_⟩) (fun q9 => absurd (show nI 58 ≤ nI 58 from Int32.le_refl _) q9)
    unfold wk; rw [if_neg u0, if_neg u1, if_neg u2, if_neg u3, if_neg u4, if_neg u5, if_neg u6, if_neg u7, if_neg u8, if_neg u9, if_neg u10, if_neg u11, if_neg u12]
  · rw [h3, h4, pk_sub hp] at q
    rw [wk_long]
    rw [wd_len]
    exact Nat.lt_of_not_le (fun y => q (nI_le (a := e - p) (b := 6) y (by omega)))
/-- the next word is read -/
def wS (b : Nat → Int32) (t p : Nat) (S : zS) : zS := zi (zi (zi S 38 3 (nI p)) 38 2 (tk b t p)) 38 4 (nI (te b t p))
theorem w_advance (hg : ip_gk (lg_tbl, vwCl, Gr)) (ho : ip_old (lg_tbl, vwCl, Gr)) {b : Nat → Int32} {t i : Nat} (ht : t ≤ 4000) (hi : i ≤ t) (hb : S.1 2 = b) (h1 : S.1 38 1 = nI t) (h4 : S.1 38 4 = nI i) : zMv l Gr (zc n w) 168 M_Words_advance (d + 5) [.ref 70] S (fun S' => S' = wS b t (gp b t i) S) := by
  refine e_Words_advance (b_Words_advance_0 hg (w_skipBlanks ht hi hb h1 h4) (fun S1 e1 => ?_))
  have hp := gp_le (b := b) hi
  obtain ⟨p, ep⟩ : ∃ p, p = gp b t i := ⟨_, rfl⟩
  rw [← ep] at hp e1 ⊢
  have a1 : S1.1 38 1 = nI t := by rw [e1, zi_k (by decide)]; exact h1
  have a4 : S1.1 38 4 = nI p := by rw [e1]; exact zi_v
  have ab : S1.1 2 = b := by rw [e1, zi_row (by decide)]; exact hb
  have fin : ∀ (S2 : zS) (K : Int32) (E : Nat), S2 = zi (zi (zi S1 38 3 (nI p)) 38 2 K) 38 4 (nI E) → K = tk b t p → E = te b t p → S2 = wS b t p S := fun S2 K E e eK eE => by
    rw [e, e1, eK, eE]
    unfold wS
    apply zS_ext
    · intro c k
      simp only [zi_get]
      by_cases c1 : c = 38 ∧ k = 4
      · simp [c1]
      · simp [c1]
    · intro _ _; rfl
  refine b_Words_advance_4 (fun q => ?_) (fun q => b_Words_advance_23 ⟨rfl, ?_⟩)
  · rw [a1, a4] at q
    have hpt : p < t := (nI_ltI (by omega) (by omega)).mp q
    rw [a4]
    have c3 : (zi S1 38 3 (nI p)).1 38 3 = nI p := zi_v
    have c4 : (zi S1 38 3 (nI p)).1 38 4 = nI p := by rw [zi_k (by decide)]; exact a4
    have c1 : (zi S1 38 3 (nI p)).1 38 1 = nI t := by rw [zi_k (by decide)]; exact a1
    have cb : (zi S1 38 3 (nI p)).1 2 = b := by rw [zi_row (by decide)]; exact ab
    have ec : (zi S1 38 3 (nI p)).1 2 (((zi S1 38 3 (nI p)).1 38 3).toNatClampNeg) = b p := by rw [c3, nI_clamp (by omega), cb]
    refine b_Words_advance_29 hg (by rw [c3]; exact vp_in_nI (by omega) (by omega)) w_isDigit (fun v S2 hv => ?_)
    obtain ⟨e2, hv⟩ := hv
    rw [e2]
    rw [ec] at hv ⊢
    by_cases qd : isd (b p)
    · rw [if_pos qd] at hv
      subst hv
      refine b_Words_advance_43 (fun z => absurd z (by decide)) (fun _ => ?_)
      refine wx_dig hg ht _ p _ rfl hp cb c1 c4 (b_Words_advance_85 (b_Words_advance_208 ⟨rfl, ?_⟩))
      refine fin _ 2 (re pd b t p) (zi_cm (Or.inr (by decide))) ?_ ?_
      · unfold tk; rw [if_pos hpt, if_pos qd]
      · unfold te; rw [if_pos hpt, if_pos qd]
    · rw [if_neg qd] at hv
      subst hv
      refine b_Words_advance_43 (fun _ => ?_) (fun z => absurd rfl z)
      refine b_Words_advance_93 hg w_isNameByte (fun v S3 hv => ?_)
      obtain ⟨e3, hv⟩ := hv
      rw [e3]
      by_cases qn : isn (b p)
      · rw [if_pos qn] at hv
        subst hv
        refine b_Words_advance_97 (fun z => absurd z (by decide)) (fun _ => ?_)
        have hr1 : p ≤ re pn b t p := re_ge hp
        have hr2 : re pn b t p ≤ t := re_le hp
        refine wx_nam hg ht _ p _ rfl hp cb c1 c4 (b_Words_advance_139 hg (w_wordKind (b := b) (p := p) (e := re pn b t p) hg ho (by rw [zi_row (by decide)]; exact cb) (by rw [zi_k (by decide)]; exact c3) zi_v hr1 (by omega)) (fun v S4 hv => ?_))
        obtain ⟨e4, hv⟩ := hv
        rw [e4, hv]
        refine b_Words_advance_144 (b_Words_advance_208 ⟨rfl, ?_⟩)
        refine fin _ (wk (wd b p (re pn b t p))) (re pn b t p) (zi_cm (Or.inr (by decide))) ?_ ?_
        · unfold tk; rw [if_pos hpt, if_neg qd, if_pos qn]
        · unfold te; rw [if_pos hpt, if_neg qd, if_pos qn]
      · rw [if_neg qn] at hv
        subst hv
        refine b_Words_advance_97 (fun _ => ?_) (fun z => absurd rfl z)
        have k180 : ∀ x : Int32, x = nx b t p → zW l Gr (zc n w) 168 M_Words_advance (d + 5) 180 [some (.ref 70), some (.int (b p))] [.int x, .int (b p), .ref 70] (zi S1 38 3 (nI p)) (fun v S' => v = none ∧ S' = wS b t p S) := fun x hx => by
          rw [hx]
          refine b_Words_advance_180 hg w_signKind (fun v S4 hv => ?_)
          obtain ⟨e4, hv⟩ := hv
          rw [e4, hv]
          have f3 : (zi S1 38 3 (nI p)).1 38 3 = nI p := zi_v
          refine b_Words_advance_183 (fun q5 => b_Words_advance_203 (b_Words_advance_204 (b_Words_advance_208 ⟨rfl, ?_⟩))) (fun q5 => b_Words_advance_199 (b_Words_advance_204 (b_Words_advance_208 ⟨rfl, ?_⟩)))
          · refine fin _ (sk (b p) (nx b t p)) (p + 2) (by rw [f3]; exact congrArg _ (nI_add p 2)) ?_ ?_
            · unfold tk; rw [if_pos hpt, if_neg qd, if_neg qn]
            · unfold te; rw [if_pos hpt, if_neg qd, if_neg qn, if_neg q5]
          · refine fin _ (sk (b p) (nx b t p)) (p + 1) (by rw [f3]; exact congrArg _ (nI_add p 1)) ?_ ?_
            · unfold tk; rw [if_pos hpt, if_neg qd, if_neg qn]
            · unfold te; rw [if_pos hpt, if_neg qd, if_neg qn, if_pos q5]
        refine b_Words_advance_150 (fun q5 => b_Words_advance_179 (k180 0 ?_)) (fun q5 => b_Words_advance_165 ?_ (k180 _ ?_))
        · rw [c1, c3, nI_1] at q5
          unfold nx
          rw [if_neg (by have := (nI_leI (by omega) (by omega)).mp q5; omega)]
        · rw [c1, c3, nI_1] at q5
          have : p + 1 < t := Nat.lt_of_not_le (fun y => q5 (nI_le y (by omega)))
          rw [c3, nI_1]
          exact vp_in_nI (by omega) (by omega)
        · rw [c1, c3, nI_1] at q5
          have : p + 1 < t := Nat.lt_of_not_le (fun y => q5 (nI_le y (by omega)))
          unfold nx
          rw [if_pos this, c3, nI_1, nI_clamp (by omega), cb]
  · rw [a1, a4] at q
    have hpt : ¬ p < t := fun y => q (nI_lt y (by omega))
    rw [a4]
    have : zi (zi S1 38 3 (nI p)) 38 2 0 = zi (zi (zi S1 38 3 (nI p)) 38 2 0) 38 4 (nI p) := by
      refine (zi_id ?_).symm
      rw [zi_k (by decide), zi_k (by decide)]
      exact a4
    refine fin _ 0 p this ?_ ?_
    · unfold tk; rw [if_neg hpt]
    · unfold te; rw [if_neg hpt]
end LK
