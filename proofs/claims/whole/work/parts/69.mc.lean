/-! what the reference's reader holds, and what it keeps -/
def MC (b : Nat → Int32) (t q j dp m N : Nat) (T : zS) : Prop := mA b t q T ∧ T.1 73 7 = 0 ∧ T.1 73 13 = nI j ∧ T.1 73 19 = nI dp ∧ T.1 73 20 = nI m ∧ nmO b t T N
def MK (b : Nat → Int32) (t : Nat) (T T' : zS) (j m : Nat) : Prop :=
  cgT T T' 0 j ∧ (∀ k, k < m → T'.1 83 k = T.1 83 k ∧ T'.1 84 k = T.1 84 k ∧ T'.1 85 k = T.1 85 k ∧ T'.1 86 k = T.1 86 k) ∧
  (∀ c k, (c < 73 ∨ c = 74 ∨ c = 75 ∨ 86 < c) → T'.1 c k = T.1 c k) ∧ (∀ k, (k < 6 ∨ (9 < k ∧ k < 13) ∨ (13 < k ∧ k < 19) ∨ (20 < k ∧ k < 25) ∨ 25 < k) → T'.1 73 k = T.1 73 k) ∧
  (∀ c k, ¬ (c = 82) → ¬ (c = 73 ∧ k = 12) → T'.2 c k = T.2 c k) ∧ (∀ v p, nid b t T v p → nid b t T' v p)
section MCK
variable {b : Nat → Int32} {t q j dp m N : Nat} {T T' T'' : zS}
theorem MK_rfl : MK b t T T j m := ⟨cgT_rfl, fun _ _ => ⟨rfl, rfl, rfl, rfl⟩, fun _ _ _ => rfl, fun _ _ => rfl, fun _ _ _ _ => rfl, fun _ _ h => h⟩
theorem MK_tr (h1 : MK b t T T' j m) (h2 : MK b t T' T'' j m) : MK b t T T'' j m := by
  refine ⟨fun k a1 a2 => ?_, fun k hk => ?_, fun c k hc => (h2.2.2.1 c k hc).trans (h1.2.2.1 c k hc), fun k hk => (h2.2.2.2.1 k hk).trans (h1.2.2.2.1 k hk), fun c k a1 a2 => (h2.2.2.2.2.1 c k a1 a2).trans (h1.2.2.2.2.1 c k a1 a2), fun v p hv => h2.2.2.2.2.2 v p (h1.2.2.2.2.2 v p hv)⟩
  · obtain ⟨x1, x2, x3, x4, x5⟩ := h1.1 k a1 a2
    obtain ⟨y1, y2, y3, y4, y5⟩ := h2.1 k a1 a2
    exact ⟨y1.trans x1, y2.trans x2, y3.trans x3, y4.trans x4, y5.trans x5⟩
  · obtain ⟨x1, x2, x3, x4⟩ := h1.2.1 k hk
    obtain ⟨y1, y2, y3, y4⟩ := h2.2.1 k hk
    exact ⟨y1.trans x1, y2.trans x2, y3.trans x3, y4.trans x4⟩
theorem MK_le {j' m' : Nat} (h : MK b t T T' j m) (hj : j' ≤ j) (hm : m' ≤ m) : MK b t T T' j' m' :=
  ⟨fun k a1 a2 => h.1 k a1 (by omega), fun k hk => h.2.1 k (by omega), h.2.2⟩
theorem MK_zi {c k : Nat} {v : Int32} (h : (c = 73 ∧ (k = 6 ∨ k = 7 ∨ k = 8 ∨ k = 13 ∨ k = 19 ∨ k = 20 ∨ k = 25)) ∨ (78 ≤ c ∧ c ≤ 81 ∧ j ≤ k) ∨ (83 ≤ c ∧ c ≤ 86 ∧ m ≤ k)) : MK b t T (zi T c k v) j m := by
  have g : ∀ c' k', (c' = c → k' = k → False) → (zi T c k v).1 c' k' = T.1 c' k' := fun c' k' h' => by
    rw [zi_get, if_neg (fun z => h' z.1 z.2)]
  refine ⟨fun k' a1 a2 => ⟨g _ _ (by omega), g _ _ (by omega), g _ _ (by omega), g _ _ (by omega), rfl⟩, fun k' hk => ⟨g _ _ (by omega), g _ _ (by omega), g _ _ (by omega), g _ _ (by omega)⟩, fun c' k' hc => g _ _ (by omega), fun k' hk => g _ _ (by omega), fun _ _ _ _ => rfl, fun v' p hv => ?_⟩
  obtain ⟨N', a, h1, h2, h3, h4, h5, h6⟩ := hv
  exact ⟨N', a, (g _ _ (by omega)).trans h1, h2, h3, h4, (g _ _ (by omega)).trans h5, h6⟩
theorem MK_zj {c k : Nat} {v : Int64} (h : (c = 82 ∧ j ≤ k) ∨ (c = 73 ∧ k = 12)) : MK b t T (zj T c k v) j m := by
  have g : ∀ c' k', (c' = c → k' = k → False) → (zj T c k v).2 c' k' = T.2 c' k' := fun c' k' h' => by
    rw [zj_get, if_neg (fun z => h' z.1 z.2)]
  exact ⟨fun k' a1 a2 => ⟨rfl, rfl, rfl, rfl, g _ _ (by omega)⟩, fun k' hk => ⟨rfl, rfl, rfl, rfl⟩, fun _ _ _ => rfl, fun _ _ => rfl, fun c' k' h1 h2 => g _ _ (by omega), fun v' p hv => hv⟩
theorem MK_mP {j0 : Nat} {x1 x2 x3 x4 : Int32} (h : j ≤ j0) : MK b t T (mP T j0 x1 x2 x3 x4) j m :=
  MK_tr (MK_tr (MK_tr (MK_tr (MK_zi (by omega)) (MK_zi (by omega))) (MK_zi (by omega))) (MK_zi (by omega))) (MK_zi (by omega))
theorem MK_mU {m0 : Nat} {x1 x2 x3 : Int32} (h : m ≤ m0) : MK b t T (mU T m0 x1 x2 x3) j m :=
  MK_tr (MK_tr (MK_tr (MK_tr (MK_zi (by omega)) (MK_zi (by omega))) (MK_zi (by omega))) (MK_zi (by omega))) (MK_zi (by omega))
theorem MK_mF {f p : Int32} : MK b t T (mF T f p) j m := MK_tr (MK_zi (by omega)) (MK_zi (by omega))
theorem MK_nm {e : Nat} (hN : N < 2000) (hO : nmO b t T N) (h : nmP b t T T' N e) : MK b t T T' j m := by
  have g : ∀ c r, ¬ (c = 73 ∧ (r = 6 ∨ r = 9)) → c ≠ 76 → c ≠ 77 → T'.1 c r = T.1 c r := h.1
  have g2 : ∀ c r, T'.2 c r = T.2 c r := fun c r => by rw [h.2.1]
  refine ⟨fun k _ _ => ⟨g _ _ (by omega) (by omega) (by omega), g _ _ (by omega) (by omega) (by omega), g _ _ (by omega) (by omega) (by omega), g _ _ (by omega) (by omega) (by omega), g2 _ _⟩, fun k _ => ⟨g _ _ (by omega) (by omega) (by omega), g _ _ (by omega) (by omega) (by omega), g _ _ (by omega) (by omega) (by omega), g _ _ (by omega) (by omega) (by omega)⟩, fun c k hc => g _ _ (by omega) (by omega) (by omega), fun k hk => g _ _ (by omega) (by omega) (by omega), fun c k _ _ => g2 c k, fun v p hv => ?_⟩
  obtain ⟨N0, a, h1, h2, h3, h4, h5, h6⟩ := hv
  have : N0 = N := (nI_eq (by omega) (by omega)).mp (h1.symm.trans hO.1)
  subst this
  obtain ⟨N', n1, n2, hO'⟩ := h.2.2.2.2
  exact ⟨N', a, hO'.1, by omega, by omega, h4, (h.2.2.2.1 v h2).trans h5, h6⟩
theorem nmO_zi {c k : Nat} {v : Int32} (h : nmO b t T N) (hc : ¬ (c = 73 ∧ k = 9) ∧ c ≠ 76 ∧ c ≠ 77) : nmO b t (zi T c k v) N := by
  have g : ∀ c' k', (c' = c → k' = k → False) → (zi T c k v).1 c' k' = T.1 c' k' := fun c' k' h' => by
    rw [zi_get, if_neg (fun z => h' z.1 z.2)]
  refine ⟨(g _ _ (by omega)).trans h.1, fun v' hv => ?_, fun v1 v2 a a' h1 h2 h3 h4 h5 h6 => ?_⟩
  · obtain ⟨a, ha, e1, e2⟩ := h.2.1 v' hv
    exact ⟨a, ha, (g _ _ (by omega)).trans e1, (g _ _ (by omega)).trans e2⟩
  · exact h.2.2 v1 v2 a a' h1 h2 h3 h4 ((g _ _ (by omega)).symm.trans h5) ((g _ _ (by omega)).symm.trans h6)
/-- a write that the reader's state doesn't see -/
theorem MC_o {c k : Nat} {v : Int32} (h : MC b t q j dp m N T) (hc : (c ≠ 73 ∧ c ≠ 75 ∧ c ≠ 76 ∧ c ≠ 77) ∨ (c = 73 ∧ (k = 8 ∨ k = 25))) : MC b t q j dp m N (zi T c k v) := by
  have g : ∀ c' k', (c' = c → k' = k → False) → (zi T c k v).1 c' k' = T.1 c' k' := fun c' k' h' => by
    rw [zi_get, if_neg (fun z => h' z.1 z.2)]
  obtain ⟨⟨a1, a2, a3, a4, a5⟩, h1, h2, h3, h4, h5⟩ := h
  exact ⟨⟨(g _ _ (by omega)).trans a1, fun k' hk => (g _ _ (by omega)).trans (a2 k' hk), (g _ _ (by omega)).trans a3, a4, a5⟩, (g _ _ (by omega)).trans h1, (g _ _ (by omega)).trans h2, (g _ _ (by omega)).trans h3, (g _ _ (by omega)).trans h4, nmO_zi h5 (by omega)⟩
theorem MC_zj {c k : Nat} {v : Int64} (h : MC b t q j dp m N T) : MC b t q j dp m N (zj T c k v) := h
theorem MC_at {q' : Nat} (h : MC b t q j dp m N T) (hq : q' ≤ t) : MC b t q' j dp m N (zi T 73 6 (nI q')) := by
  obtain ⟨a, h1, h2, h3, h4, h5⟩ := h
  exact ⟨mA_at a hq, by rw [zi_k (by decide)]; exact h1, by rw [zi_k (by decide)]; exact h2, by rw [zi_k (by decide)]; exact h3, by rw [zi_k (by decide)]; exact h4, nmO_zi h5 (by omega)⟩
theorem mA_zi {k : Nat} {v : Int32} (h : mA b t q T) (h5 : k ≠ 5) (h6 : k ≠ 6) : mA b t q (zi T 73 k v) :=
  ⟨by rw [zi_k (by omega)]; exact h.1, fun k' hk => by rw [zi_c (by decide)]; exact h.2.1 k' hk, by rw [zi_k (by omega)]; exact h.2.2.1, h.2.2.2⟩
theorem MC_j {j' : Nat} (h : MC b t q j dp m N T) : MC b t q j' dp m N (zi T 73 13 (nI j')) := by
  obtain ⟨a, h1, h2, h3, h4, h5⟩ := h
  exact ⟨mA_zi a (by decide) (by decide), by rw [zi_k (by decide)]; exact h1, zi_v, by rw [zi_k (by decide)]; exact h3, by rw [zi_k (by decide)]; exact h4, nmO_zi h5 (by omega)⟩
theorem MC_dp {d' : Nat} (h : MC b t q j dp m N T) : MC b t q j d' m N (zi T 73 19 (nI d')) := by
  obtain ⟨a, h1, h2, h3, h4, h5⟩ := h
  exact ⟨mA_zi a (by decide) (by decide), by rw [zi_k (by decide)]; exact h1, by rw [zi_k (by decide)]; exact h2, zi_v, by rw [zi_k (by decide)]; exact h4, nmO_zi h5 (by omega)⟩
theorem MC_m {m' : Nat} (h : MC b t q j dp m N T) : MC b t q j dp m' N (zi T 73 20 (nI m')) := by
  obtain ⟨a, h1, h2, h3, h4, h5⟩ := h
  exact ⟨mA_zi a (by decide) (by decide), by rw [zi_k (by decide)]; exact h1, by rw [zi_k (by decide)]; exact h2, by rw [zi_k (by decide)]; exact h3, zi_v, nmO_zi h5 (by omega)⟩
theorem MC_mP {x1 x2 x3 x4 : Int32} (h : MC b t q j dp m N T) : MC b t q (j + 1) dp m N (mP T j x1 x2 x3 x4) :=
  MC_j (MC_o (MC_o (MC_o (MC_o h (by omega)) (by omega)) (by omega)) (by omega))
theorem MC_mU {x1 x2 x3 : Int32} (h : MC b t q j dp m N T) : MC b t q j dp (m + 1) N (mU T m x1 x2 x3) :=
  MC_m (MC_o (MC_o (MC_o (MC_o h (by omega)) (by omega)) (by omega)) (by omega))
theorem MC_nm {e : Nat} (h : MC b t q j dp m N T) (he : e ≤ t) (hp : nmP b t T T' N e) : ∃ N', N ≤ N' ∧ N' ≤ N + 1 ∧ MC b t e j dp m N' T' := by
  obtain ⟨N', n1, n2, hO⟩ := hp.2.2.2.2
  have g : ∀ c r, ¬ (c = 73 ∧ (r = 6 ∨ r = 9)) → c ≠ 76 → c ≠ 77 → T'.1 c r = T.1 c r := hp.1
  obtain ⟨⟨a1, a2, a3, a4, a5⟩, h1, h2, h3, h4, h5⟩ := h
  exact ⟨N', n1, n2, ⟨⟨(g _ _ (by omega) (by omega) (by omega)).trans a1, fun k hk => (g _ _ (by omega) (by omega) (by omega)).trans (a2 k hk), hp.2.2.1, he, a5⟩, (g _ _ (by omega) (by omega) (by omega)).trans h1, (g _ _ (by omega) (by omega) (by omega)).trans h2, (g _ _ (by omega) (by omega) (by omega)).trans h3, (g _ _ (by omega) (by omega) (by omega)).trans h4, hO⟩⟩
theorem mP_r {j0 : Nat} {x1 x2 x3 x4 : Int32} : (mP T j0 x1 x2 x3 x4).1 78 j0 = x1 ∧ (mP T j0 x1 x2 x3 x4).1 79 j0 = x2 ∧ (mP T j0 x1 x2 x3 x4).1 80 j0 = x3 ∧ (mP T j0 x1 x2 x3 x4).1 81 j0 = x4 := by
  unfold mP
  refine ⟨?_, ?_, ?_, ?_⟩
  · rw [zi_c (by decide), zi_c (by decide), zi_c (by decide), zi_c (by decide)]; exact zi_v
  · rw [zi_c (by decide), zi_c (by decide), zi_c (by decide)]; exact zi_v
  · rw [zi_c (by decide), zi_c (by decide)]; exact zi_v
  · rw [zi_c (by decide)]; exact zi_v
theorem mU_r {m0 : Nat} {x1 x2 x3 : Int32} : (mU T m0 x1 x2 x3).1 83 m0 = x1 ∧ (mU T m0 x1 x2 x3).1 84 m0 = x2 ∧ (mU T m0 x1 x2 x3).1 85 m0 = x3 ∧ (mU T m0 x1 x2 x3).1 86 m0 = 0 := by
  unfold mU
  refine ⟨?_, ?_, ?_, ?_⟩
  · rw [zi_c (by decide), zi_c (by decide), zi_c (by decide), zi_c (by decide)]; exact zi_v
  · rw [zi_c (by decide), zi_c (by decide), zi_c (by decide)]; exact zi_v
  · rw [zi_c (by decide), zi_c (by decide)]; exact zi_v
  · rw [zi_c (by decide)]; exact zi_v
end MCK
