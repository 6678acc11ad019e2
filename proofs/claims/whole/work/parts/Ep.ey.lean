/-! compile(): what it leaves on each side -/
/-- the class: outside of the compiler's cells all is as it was, and nothing is dealt -/
def KCr (S X : zS) : Prop := (∀ c k, ¬ (c = 0 ∧ (k = 4 ∨ (14 ≤ k ∧ k ≤ 16))) → ¬ (3 ≤ c ∧ c ≤ 58) → X.1 c k = S.1 c k) ∧ (∀ c k, ¬ (45 ≤ c ∧ c ≤ 58) → X.2 c k = S.2 c k) ∧ X.1 0 15 = 0 ∧ X.1 0 16 = 0
/-- the reference's -/
def KDr (U X : zS) : Prop := (∀ c k, ¬ (c = 73 ∧ ((5 ≤ k ∧ k ≤ 112) ∨ k = 119 ∨ k = 124 ∨ k = 139 ∨ k = 140 ∨ k = 145)) → ¬ (76 ≤ c ∧ c ≤ 146) → ¬ (c = 155 ∨ c = 156 ∨ c = 167) → X.1 c k = U.1 c k) ∧ (∀ c k, ¬ (c = 73 ∧ k = 12) → ¬ (76 ≤ c ∧ c ≤ 146) → X.2 c k = U.2 c k) ∧ ∀ k, k = 119 ∨ k = 124 ∨ k = 139 ∨ k = 140 → X.1 73 k = 0
section FRC
variable {n w t i : Nat} {S S5 S6 A A2 X U T T' B B' B1 : zS} {b : Nat → Int32} {an : Nat → Bool} {lv bo : Nat → Nat} {g Dm no iw : Nat}
theorem kC3_n {c k : Nat} (q1 : ¬ (c = 0 ∧ 14 ≤ k ∧ k ≤ 16)) (q2 : ¬ (c = 3 ∧ 4 ≤ k ∧ k ≤ 6)) (q3 : ¬ (c = 8 ∧ (k = 1 ∨ k = 9 ∨ k = 11 ∨ k = 12))) (q4 : ¬ (c = 17 ∧ (k = 6 ∨ k = 7))) (q5 : ¬ c = 23) : (kC3 n t S).1 c k = S.1 c k := by
  unfold kC3 kIc zfill
  rw [zI_get, if_neg q5, zi_get, if_neg (by omega), zi_get, if_neg (by omega), zi_get, if_neg (by omega), zi_get, if_neg (by omega), zi_get, if_neg (by omega), zi_get, if_neg (by omega), zi_get, if_neg (by omega), zi_get, if_neg (by omega), zi_get, if_neg (by omega), zi_get, if_neg (by omega), zi_get, if_neg (by omega), zi_get, if_neg (by omega)]
theorem kC3_v : (kC3 n t S).1 0 14 = 0 ∧ (kC3 n t S).1 0 15 = 0 ∧ (kC3 n t S).1 0 16 = 0 ∧ (kC3 n t S).1 8 11 = 0 ∧ (kC3 n t S).1 8 12 = 0 := by
  unfold kC3 kIc zfill
  refine ⟨?_, ?_, ?_, ?_, ?_⟩ <;> rw [zI_get, if_neg (by decide)] <;> simp only [zi_get] <;> rfl
theorem kr_5 (h : JK (kRd b t (kC3 n t S)) S5 0 0 0) : KCr S S5 ∧ S5.1 0 14 = 0 ∧ S5.1 8 11 = 0 ∧ S5.1 8 12 = 0 := by
  have f : ∀ c k, ¬ (3 ≤ c ∧ c ≤ 7) → ¬ (9 ≤ c ∧ c ≤ 15) → ¬ (17 ≤ c ∧ c ≤ 23) → ¬ (34 ≤ c ∧ c ≤ 38) → ¬ (c = 8 ∧ k = 9) → S5.1 c k = (kC3 n t S).1 c k := fun c k q1 q2 q3 q4 q5 => (h.2.2.2.1 c k q1 q2 q3 q4 q5).trans (kRd_n (by omega) (by omega))
  have v := kC3_v (n := n) (t := t) (S := S)
  refine ⟨⟨fun c k q1 q2 => (f c k (by omega) (by omega) (by omega) (by omega) (by omega)).trans (kC3_n (by omega) (by omega) (by omega) (by omega) (by omega)), fun c k _ => (h.2.2.2.2.2.2 c k).trans rfl, (f 0 15 (by omega) (by omega) (by omega) (by omega) (by omega)).trans v.2.1, (f 0 16 (by omega) (by omega) (by omega) (by omega) (by omega)).trans v.2.2.1⟩, (f 0 14 (by omega) (by omega) (by omega) (by omega) (by omega)).trans v.1, (f 8 11 (by omega) (by omega) (by omega) (by omega) (by omega)).trans v.2.2.2.1, (f 8 12 (by omega) (by omega) (by omega) (by omega) (by omega)).trans v.2.2.2.2⟩
theorem kr_6 (h : KCr S S5) (k : KGc S5 S6) : KCr S S6 ∧ S6.1 0 14 = S5.1 0 14 :=
  ⟨⟨fun c i q1 q2 => (k.1 c i (by omega)).trans (h.1 c i q1 q2), fun c i q => (k.2 c i).trans (h.2.1 c i q), (k.1 0 15 (by omega)).trans h.2.2.1, (k.1 0 16 (by omega)).trans h.2.2.2⟩, k.1 0 14 (by omega)⟩
theorem kCc_n {c k : Nat} (h : ¬ (c = 24 ∧ ((4 ≤ k ∧ k ≤ 8) ∨ k = 11))) (h2 : ¬ (c = 31 ∧ k = 0)) : (kCc S).1 c k = S.1 c k := by
  unfold kCc
  rw [zi_get, if_neg (by omega), zi_get, if_neg (by omega), zi_get, if_neg (by omega), zi_get, if_neg (by omega), zi_get, if_neg (by omega), zi_get, if_neg (by omega), zi_get, if_neg (by omega)]
theorem kBu_n2 {c k : Nat} (h : ¬ c = 58) (h2 : ¬ c = 45) : (kBu w A).1 c k = A.1 c k := by
  unfold kBu zfill
  rw [zi_c h2, zi_c h2, zi_c h2, zi_c h2, zi_c h2, zI_get, if_neg h]
theorem kr_A (h : KCr S S6) (k : KBc (kBu w (kCc S6)) A) : KCr S A ∧ A.1 0 14 = S6.1 0 14 := by
  have f : ∀ c i, ¬ (3 ≤ c ∧ c ≤ 58) → A.1 c i = S6.1 c i := fun c i q => (k.1 c i (by omega) (by omega) (by omega)).trans ((kBu_n2 (by omega) (by omega)).trans (kCc_n (by omega) (by omega)))
  exact ⟨⟨fun c i q1 q2 => (f c i q2).trans (h.1 c i q1 q2), fun c i q => (k.2 c i (by omega)).trans (h.2.1 c i q), (f 0 15 (by omega)).trans h.2.2.1, (f 0 16 (by omega)).trans h.2.2.2⟩, f 0 14 (by omega)⟩
/-- the class's end behind a FAULT -/
theorem kr_bad (h : KCr S A) (h14 : A.1 0 14 = 0) : KCr S (kIc n (zi A 0 4 0)) ∧ (kIc n (zi A 0 4 0)).1 0 14 = 0 ∧ (kIc n (zi A 0 4 0)).1 0 4 = 0 ∧ (kIc n (zi A 0 4 0)).1 3 5 = A.1 3 5 ∧ (kIc n (zi A 0 4 0)).1 3 6 = A.1 3 6 ∧ (kIc n (zi A 0 4 0)).1 17 6 = 0 ∧ (kIc n (zi A 0 4 0)).1 17 7 = 0 ∧ ∀ q, q < n → (kIc n (zi A 0 4 0)).1 23 q = 0 := by
  have f : ∀ c k, ¬ c = 23 → ¬ (c = 17 ∧ (k = 6 ∨ k = 7)) → (kIc n (zi A 0 4 0)).1 c k = (zi A 0 4 0).1 c k := fun c k q1 q2 => by
    unfold kIc zfill
    rw [zI_get, if_neg q1, zi_get, if_neg (by omega), zi_get, if_neg (by omega)]
  refine ⟨⟨fun c k q1 q2 => ?_, fun c k q => h.2.1 c k q, ?_, ?_⟩, ?_, ?_, ?_, ?_, ?_, ?_, ?_⟩
  · rw [f c k (by omega) (by omega), zi_get, if_neg (by omega)]
    exact h.1 c k q1 q2
  · rw [f 0 15 (by omega) (by omega), zi_k (by decide)]; exact h.2.2.1
  · rw [f 0 16 (by omega) (by omega), zi_k (by decide)]; exact h.2.2.2
  · rw [f 0 14 (by omega) (by omega), zi_k (by decide)]; exact h14
  · rw [f 0 4 (by omega) (by omega)]; exact zi_v
  · rw [f 3 5 (by omega) (by omega), zi_c (by decide)]
  · rw [f 3 6 (by omega) (by omega), zi_c (by decide)]
  · unfold kIc zfill
    rw [zI_get, if_neg (by decide), zi_k (by decide)]; exact zi_v
  · unfold kIc zfill
    rw [zI_get, if_neg (by decide)]; exact zi_v
  · intro q hq
    unfold kIc zfill
    rw [zI_get, if_pos rfl, if_pos hq]
/-- the class's end with a circuit -/
theorem kr_ok (h : KCr S A) (k : FIN an lv g (zi A 0 4 0) A2) : KCr S (zi A2 0 14 1) ∧ (zi A2 0 14 1).1 0 14 = 1 ∧ (zi A2 0 14 1).1 0 4 = 0 := by
  have f : ∀ c i, ¬ (c = 29 ∨ c = 30) → ¬ (c = 0 ∧ i = 14) → (zi A2 0 14 1).1 c i = (zi A 0 4 0).1 c i := fun c i q1 q2 => by rw [zi_get, if_neg q2, k.1 c i q1]
  refine ⟨⟨fun c i q1 q2 => ?_, fun c i q => (k.2.1 c i).trans (h.2.1 c i q), ?_, ?_⟩, zi_v, ?_⟩
  · rw [f c i (by omega) (by omega), zi_get, if_neg (by omega)]
    exact h.1 c i q1 q2
  · rw [f 0 15 (by omega) (by omega), zi_k (by decide)]; exact h.2.2.1
  · rw [f 0 16 (by omega) (by omega), zi_k (by decide)]; exact h.2.2.2
  · rw [f 0 4 (by omega) (by omega)]; exact zi_v
theorem kd_T (h : PK b t (mC1 U) T 0 0) : KDr U T := by
  refine ⟨fun c k q1 q2 q3 => ?_, fun c k q1 q2 => h.2.2.2.2.2.1 c k (by omega) q1, fun k hk => ?_⟩
  · by_cases z : c = 73
    · rw [z] at q1 ⊢
      rw [h.2.2.2.2.1 k (by omega)]
      exact mC1_n (by omega)
    · rw [h.2.2.2.1 c k (by omega)]
      exact mC1_n (by omega)
  · rw [h.2.2.2.2.1 k (by omega)]
    exact mC1_0 (by omega)
theorem kd_6 (h : KDr U T) (k : KMf T T') : KDr U T' :=
  ⟨fun c i q1 q2 q3 => (k.1 c i (by omega)).trans (h.1 c i q1 q2 q3), fun c i q1 q2 => (k.2 c i).trans (h.2.1 c i q1 q2), fun i hi => (k.1 73 i (by omega)).trans (h.2.2 i hi)⟩
theorem mBu_n2 {c k : Nat} (h : ¬ (c = 73 ∧ (k = 66 ∨ k = 67 ∨ k = 68 ∨ k = 69 ∨ k = 70 ∨ k = 94 ∨ k = 97 ∨ k = 101 ∨ k = 110 ∨ k = 85))) : (mBu B).1 c k = B.1 c k := by
  unfold mBu
  rw [zi_get, if_neg (by omega), zi_get, if_neg (by omega), zi_get, if_neg (by omega), zi_get, if_neg (by omega), zi_get, if_neg (by omega), zi_get, if_neg (by omega), zi_get, if_neg (by omega), zi_get, if_neg (by omega), zi_get, if_neg (by omega), zi_get, if_neg (by omega)]
theorem kd_B (h : KDr U T) (hI : INs S (zi (zi T 73 75 0) 73 65 0) B1 iw) (k : KBm (mBu B1) B') : KDr U B' := by
  have f : ∀ c i, ¬ (c = 73 ∧ (i = 7 ∨ i = 8 ∨ i = 65 ∨ i = 75 ∨ (66 ≤ i ∧ i ≤ 70) ∨ (85 ≤ i ∧ i ≤ 112))) → ¬ (111 ≤ c ∧ c ≤ 146) → B'.1 c i = T.1 c i := fun c i q1 q2 => by
    rw [k.1 c i (by omega) (by omega) (by omega), mBu_n2 (by omega), hI.1 c i (by omega) (by omega), zi_get, if_neg (by omega), zi_get, if_neg (by omega)]
  exact ⟨fun c i q1 q2 q3 => (f c i (by omega) (by omega)).trans (h.1 c i q1 q2 q3), fun c i q1 q2 => (k.2 c i (by omega)).trans ((hI.2.1 c i (by omega)).trans (h.2.1 c i q1 q2)), fun i hi => (f 73 i (by omega) (by omega)).trans (h.2.2 i hi)⟩
theorem kd_bad (h : KDr U T) : KDr U (zi (zi T 73 83 0) 73 5 0) :=
  ⟨fun c i q1 q2 q3 => by rw [zi_get, if_neg (by omega), zi_get, if_neg (by omega)]; exact h.1 c i q1 q2 q3, h.2.1, fun i hi => by rw [zi_get, if_neg (by omega), zi_get, if_neg (by omega)]; exact h.2.2 i hi⟩
theorem kd_ok (h : KDr U B) (k : MFi an lv g Dm n no iw bo S B B') : KDr U B' :=
  ⟨fun c i q1 q2 q3 => (k.1 c i (by omega) (by omega)).trans (h.1 c i q1 q2 q3), fun c i q1 q2 => (k.2.1 c i).trans (h.2.1 c i q1 q2), fun i hi => (k.1 73 i (by omega) (by omega)).trans (h.2.2 i hi)⟩
end FRC
