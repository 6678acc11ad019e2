/-! compile() of the reference -/
def mC0 (U : zS) : zS := zi (zi (zi (zi (zi (zi U 73 7 0) 73 8 (-1)) 73 124 0) 73 139 0) 73 140 0) 73 119 0
def mC1 (U : zS) : zS := zi (zi (zi (zi (zi (zi (zi (zi (mC0 U) 73 6 0) 73 13 0) 73 9 0) 73 26 0) 73 20 0) 73 19 0) 73 29 0) 73 30 0
/-- the reference's end behind a circuit -/
def MFi (an : Nat → Bool) (lv : Nat → Nat) (g Dm n no iw : Nat) (bo : Nat → Nat) (S B B' : zS) : Prop := (∀ c i, ¬ (c = 73 ∧ (i = 5 ∨ i = 83 ∨ i = 145)) → ¬ (c = 155 ∨ c = 156 ∨ c = 167) → B'.1 c i = B.1 c i) ∧ (∀ c i, B'.2 c i = B.2 c i) ∧ B'.1 73 5 = 0 ∧ B'.1 73 83 = 1 ∧ B'.1 73 145 = nI (bo no) ∧ (∀ q, q < n → B'.1 167 q = nI (iQ S q iw)) ∧ (∀ m, 1 ≤ m → m ≤ Dm + 1 → B'.1 155 m = nI (sL an lv m g)) ∧ ∀ x, x < g → an x = true → B'.1 156 (qLv an lv g x) = nI x
section CMM
variable {l : Launch} {Gr : zG} {n w d D N M e q dm : Nat} {S U T B B0 : zS} {b : Nat → Int32} {Av : Nat → Nat → Prop} {an : Nat → Bool} {lv bo : Nat → Nat} {t k vw iw p i iwb g Dm no : Nat} {Q : Option Value → zS → Prop} {R : Int32 → zS → Prop}
theorem mC1_n {c k : Nat} (h : ¬ (c = 73 ∧ (k = 6 ∨ k = 7 ∨ k = 8 ∨ k = 9 ∨ k = 13 ∨ k = 19 ∨ k = 20 ∨ k = 26 ∨ k = 29 ∨ k = 30 ∨ k = 119 ∨ k = 124 ∨ k = 139 ∨ k = 140))) : (mC1 U).1 c k = U.1 c k := by
  unfold mC1 mC0
  rw [zi_get, if_neg (by omega), zi_get, if_neg (by omega), zi_get, if_neg (by omega), zi_get, if_neg (by omega), zi_get, if_neg (by omega), zi_get, if_neg (by omega), zi_get, if_neg (by omega), zi_get, if_neg (by omega), zi_get, if_neg (by omega), zi_get, if_neg (by omega), zi_get, if_neg (by omega), zi_get, if_neg (by omega), zi_get, if_neg (by omega), zi_get, if_neg (by omega)]
theorem mC1_0 {k : Nat} (h : k = 6 ∨ k = 7 ∨ k = 9 ∨ k = 13 ∨ k = 19 ∨ k = 20 ∨ k = 26 ∨ k = 29 ∨ k = 30 ∨ k = 119 ∨ k = 124 ∨ k = 139 ∨ k = 140) : (mC1 U).1 73 k = 0 := by
  unfold mC1 mC0
  simp only [zi_get, true_and]
  rcases h with rfl | rfl | rfl | rfl | rfl | rfl | rfl | rfl | rfl | rfl | rfl | rfl | rfl <;> rfl
theorem hs_0 (ht : t ≤ 4000) (h5 : U.1 73 5 = nI t) (h75 : ∀ k, k < t → U.1 75 k = b k) : HS b t 0 0 0 0 0 0 (gp b t 0) (mC1 U) :=
  ⟨⟨⟨⟨(mC1_n (by omega)).trans h5, fun k hk => (mC1_n (by omega)).trans (h75 k hk), mC1_0 (by omega), Nat.zero_le _, ht⟩, mC1_0 (by omega), mC1_0 (by omega), mC1_0 (by omega), mC1_0 (by omega), mC1_0 (by omega), fun v hv => absurd hv (Nat.not_lt_zero _), fun v v' a a' hv => absurd hv (Nat.not_lt_zero _)⟩, mC1_0 (by omega), mC1_0 (by omega), mC1_0 (by omega)⟩, rfl, ⟨by omega, by omega, Or.inl (by omega)⟩⟩
/-- up to the reading's end -/
theorem m_cmp1 (hg : ip_gk (lg_tbl, vwCl, Gr)) (run : ∀ Q : Option Value → zS → Prop, Q none T → zW l Gr (zc n w) 168 M_Mo_program (q + 287 + 14) 42 pL [] (mC1 U) Q) (kk : zW l Gr (zc n w) 168 M_Mo_compile (q + 302) 18 [some (.ref 105), none] [] T (fun v S' => ∃ x, v = some (.int x) ∧ R x S')) : zMi l Gr (zc n w) 168 M_Mo_compile (q + 302) [.ref 105] U R :=
  e_Mo_compile (b_Mo_compile_0 hg (R := fun X => X = mC0 U) (e_Mo_forget (b_Mo_forget_0 ⟨rfl, rfl⟩)) (fun X e => b_Mo_compile_14 hg (R := fun X => X = T) (by rw [e]; exact e_Mo_program (d := q + 297) (b_Mo_program_0 (run _ ⟨rfl, rfl⟩))) (fun X e => by rw [e]; exact kk)))
/-- the end behind a FAULT -/
theorem m_bad (h : ¬ T.1 73 7 = 0) (hR : R (T.1 73 7) (zi (zi T 73 83 0) 73 5 0)) : zW l Gr (zc n w) 168 M_Mo_compile (q + 302) 40 [some (.ref 105), none] [] T (fun v S' => ∃ x, v = some (.int x) ∧ R x S') :=
  b_Mo_compile_40 (fun _ => b_Mo_compile_52 (b_Mo_compile_53 rfl (fun _ => b_Mo_compile_167 ⟨_, rfl, by rw [zi_k (by decide), zi_k (by decide)]; exact hR⟩) (fun y => absurd rfl y))) (fun y => absurd y h)
theorem m_read_bad (h : ¬ T.1 73 7 = 0) (hR : R (T.1 73 7) (zi (zi T 73 83 0) 73 5 0)) : zW l Gr (zc n w) 168 M_Mo_compile (q + 302) 18 [some (.ref 105), none] [] T (fun v S' => ∃ x, v = some (.int x) ∧ R x S') :=
  b_Mo_compile_18 (fun _ => b_Mo_compile_29 (fun _ => m_bad h hR) (fun y => absurd y h)) (fun y => absurd y h)
theorem m_sort (hg : ip_gk (lg_tbl, vwCl, Gr)) {T' : zS} (h : T.1 73 7 = 0) (run : zMv l Gr (zc n w) 168 M_Mo_sorts (q + 301) [.ref 105] T (fun X => X = T')) (k1 : ¬ T'.1 73 7 = 0 → R (T'.1 73 7) (zi (zi T' 73 83 0) 73 5 0)) (k2 : T'.1 73 7 = 0 → zW l Gr (zc n w) 168 M_Mo_compile (q + 302) 36 [some (.ref 105), none] [] T' (fun v S' => ∃ x, v = some (.int x) ∧ R x S')) : zW l Gr (zc n w) 168 M_Mo_compile (q + 302) 18 [some (.ref 105), none] [] T (fun v S' => ∃ x, v = some (.int x) ∧ R x S') :=
  b_Mo_compile_18 (fun y => absurd h y) (fun _ => b_Mo_compile_25 hg run (fun X e => by rw [e]; exact b_Mo_compile_29 (fun y => m_bad y (k1 y)) k2))
/-- sums behind the circuit -/
theorem mf_133 (hn : n ≤ 16) (hiw : iw ≤ 256) (h115 : ∀ a, a < iw → ∃ o bt, o < n ∧ bt ≤ 32 ∧ B0.1 115 a = nI o ∧ B0.1 116 a = nI bt ∧ iO S a = o ∧ iB S a = bt) (h75 : B0.1 73 75 = nI iw) (kk : ∀ B, (∀ c i, ¬ c = 167 → B.1 c i = B0.1 c i) → (∀ c i, B.2 c i = B0.2 c i) → (∀ q, q < n → B.1 167 q = nI (iQ S q iw)) → zW l Gr (zc n w) 168 M_Mo_compile (e + 1) 167 [some (.ref 105), none] [] B Q) : ∀ c x B, x + c = iw → (∀ c i, ¬ c = 167 → B.1 c i = B0.1 c i) → (∀ c i, B.2 c i = B0.2 c i) → (∀ q, q < n → B.1 167 q = nI (iQ S q x)) → zW l Gr (zc n w) 168 M_Mo_compile (e + 1) 133 [some (.ref 105), some (.int (nI x))] [] B Q
  | 0, x, B, h, f1, f2, h7 => by
    have ex : x = iw := by omega
    subst ex
    exact b_Mo_compile_133 (fun _ => kk B f1 f2 h7) (fun y => absurd (by rw [f1 73 75 (by omega), h75]; exact nI_le (Nat.le_refl _) (by omega)) y)
  | c + 1, x, B, h, f1, f2, h7 => by
    obtain ⟨o, bt, ho, hbt, b5, b6, eo, eb⟩ := h115 x (by omega)
    have cx : ((nI x : Int32)).toNatClampNeg = x := nI_clamp (by omega)
    have co : ((nI o : Int32)).toNatClampNeg = o := nI_clamp (by omega)
    have a5 : B.1 115 x = nI o := (f1 115 x (by omega)).trans b5
    have a6 : B.1 116 x = nI bt := (f1 116 x (by omega)).trans b6
    refine b_Mo_compile_133 (fun y => absurd y (by rw [f1 73 75 (by omega), h75]; exact nI_ge (a := x) (b := iw) (by omega) (by omega))) (fun _ => b_Mo_compile_141 (vp_in_nI (by omega) (by omega)) (by rw [cx, a5]; exact vp_in_nI (by omega) (by omega)) ?_)
    rw [cx, a5, co, a6, h7 o ho, nI_add, show nI x + Int32.ofInt 1 = nI (x + 1) from nI_add x 1]
    refine mf_133 hn hiw h115 h75 kk c (x + 1) _ (by omega) (fun c i q => by rw [zi_c q]; exact f1 c i q) f2 (fun y hy => ?_)
    show _ = nI (iQ S y x + (if iO S x = y then iB S x else 0))
    by_cases z : y = o
    · rw [z, zi_v, if_pos eo, eb]
    · rw [zi_k z, if_neg (fun w1 => z (by rw [← w1, eo])), Nat.add_zero]
      exact h7 y hy
theorem mf_110 (hn : n ≤ 16) (kk : ∀ B, (∀ c i, ¬ c = 167 → B.1 c i = B0.1 c i) → (∀ c i, B.2 c i = B0.2 c i) → (∀ q, q < n → B.1 167 q = 0) → zW l Gr (zc n w) 168 M_Mo_compile (e + 1) 133 [some (.ref 105), some (.int 0)] [] B Q) : ∀ c x B, x + c = n → (∀ c i, ¬ c = 167 → B.1 c i = B0.1 c i) → (∀ c i, B.2 c i = B0.2 c i) → (∀ q, q < x → B.1 167 q = 0) → zW l Gr (zc n w) 168 M_Mo_compile (e + 1) 110 [some (.ref 105), some (.int (nI x))] [] B Q
  | 0, x, B, h, f1, f2, h7 => by
    have ex : x = n := by omega
    subst ex
    exact b_Mo_compile_110 (fun _ => b_Mo_compile_131 (kk B f1 f2 h7)) (fun y => absurd (nI_le (Nat.le_refl _) (by omega)) y)
  | c + 1, x, B, h, f1, f2, h7 => by
    refine b_Mo_compile_110 (fun y => absurd y (nI_ge (a := x) (b := n) (by omega) (by omega))) (fun _ => b_Mo_compile_118 (vp_in_nI (by omega) (by omega)) ?_)
    rw [nI_clamp (by omega), show nI x + Int32.ofInt 1 = nI (x + 1) from nI_add x 1]
    refine mf_110 hn kk c (x + 1) _ (by omega) (fun c i q => by rw [zi_c q]; exact f1 c i q) f2 (fun y hy => ?_)
    by_cases z : y = x
    · rw [z]; exact zi_v
    · rw [zi_k z]; exact h7 y (by omega)
theorem mf_79 (hno : no ≤ 500) (h69 : B0.1 73 69 = nI no) (hb0 : bo 0 = 0) (h120 : ∀ t, t < no → ∃ m, B0.1 120 t = nI m ∧ bo (t + 1) = bo t + m) (kk : ∀ B, (∀ c i, ¬ (c = 73 ∧ i = 145) → B.1 c i = B0.1 c i) → (∀ c i, B.2 c i = B0.2 c i) → B.1 73 145 = nI (bo no) → zW l Gr (zc n w) 168 M_Mo_compile (e + 1) 110 [some (.ref 105), some (.int 0)] [] B Q) : ∀ c x B, x + c = no → (∀ c i, ¬ (c = 73 ∧ i = 145) → B.1 c i = B0.1 c i) → (∀ c i, B.2 c i = B0.2 c i) → B.1 73 145 = nI (bo x) → zW l Gr (zc n w) 168 M_Mo_compile (e + 1) 79 [some (.ref 105), some (.int (nI x))] [] B Q
  | 0, x, B, h, f1, f2, h7 => by
    have ex : x = no := by omega
    subst ex
    exact b_Mo_compile_79 (fun _ => b_Mo_compile_108 (kk B f1 f2 h7)) (fun y => absurd (by rw [f1 73 69 (by omega), h69]; exact nI_le (Nat.le_refl _) (by omega)) y)
  | c + 1, x, B, h, f1, f2, h7 => by
    obtain ⟨m, b1, b2⟩ := h120 x (by omega)
    refine b_Mo_compile_79 (fun y => absurd y (by rw [f1 73 69 (by omega), h69]; exact nI_ge (a := x) (b := no) (by omega) (by omega))) (fun _ => b_Mo_compile_87 (vp_in_nI (by omega) (by omega)) ?_)
    rw [nI_clamp (by omega), h7, f1 120 x (by omega), b1, nI_add, ← b2, show nI x + Int32.ofInt 1 = nI (x + 1) from nI_add x 1]
    exact mf_79 hno h69 hb0 h120 kk c (x + 1) _ (by omega) (fun c i q => by rw [zi_get, if_neg q]; exact f1 c i q) f2 zi_v
theorem m_fin (hg : ip_gk (lg_tbl, vwCl, Gr)) (hn : n ≤ 16) (hiw : iw ≤ 256) (h7 : B.1 73 7 = 0) (hL : MLv an lv g Dm B) (hno : no ≤ 500) (h69 : B.1 73 69 = nI no) (hb0 : bo 0 = 0) (h120 : ∀ t, t < no → ∃ m, B.1 120 t = nI m ∧ bo (t + 1) = bo t + m) (h115 : ∀ a, a < iw → ∃ o bt, o < n ∧ bt ≤ 32 ∧ B.1 115 a = nI o ∧ B.1 116 a = nI bt ∧ iO S a = o ∧ iB S a = bt) (h75 : B.1 73 75 = nI iw) (kk : ∀ B', MFi an lv g Dm n no iw bo S B B' → R 0 B') : zW l Gr (zc n w) 168 M_Mo_compile (q + 302) 40 [some (.ref 105), none] [] B (fun v S' => ∃ x, v = some (.int x) ∧ R x S') := by
  have hL' : MLv an lv g Dm (zi (zi B 73 83 1) 73 5 0) := ⟨by rw [zi_k (by decide), zi_k (by decide)]; exact hL.1, hL.2.1, by rw [zi_k (by decide), zi_k (by decide)]; exact hL.2.2.1, hL.2.2.2.1, fun k hk => by rw [zi_c (by decide), zi_c (by decide), zi_c (by decide), zi_c (by decide)]; exact hL.2.2.2.2 k hk⟩
  refine b_Mo_compile_40 (fun y => absurd h7 y) (fun _ => b_Mo_compile_48 (b_Mo_compile_53 rfl (fun y => absurd y (by decide)) (fun _ => b_Mo_compile_68 hg (m_levels (d := q + 301) hL') (fun B1 h1 => b_Mo_compile_72 ?_))))
  have g1 : ∀ c i, ¬ (c = 73 ∧ (i = 5 ∨ i = 83)) → ¬ (c = 155 ∨ c = 156) → B1.1 c i = B.1 c i := fun c i q1 q2 => by
    rw [h1.1 c i q2, zi_get, if_neg (by omega), zi_get, if_neg (by omega)]
  refine mf_79 (B0 := B1) hno ((g1 73 69 (by omega) (by omega)).trans h69) hb0 (fun t ht => by rw [g1 120 t (by omega) (by omega)]; exact h120 t ht) (fun B2 a1 a2 a3 => ?_) no 0 _ (by omega) (fun c i q => by rw [zi_get, if_neg q]) (fun _ _ => rfl) (by rw [hb0]; exact zi_v)
  refine mf_110 (B0 := B2) hn (fun B3 c1 c2 c3 => ?_) n 0 B2 (by omega) (fun _ _ _ => rfl) (fun _ _ => rfl) (fun y hy => absurd hy (Nat.not_lt_zero y))
  have g3 : ∀ c i, ¬ (c = 73 ∧ (i = 5 ∨ i = 83 ∨ i = 145)) → ¬ (c = 155 ∨ c = 156 ∨ c = 167) → B3.1 c i = B.1 c i := fun c i q1 q2 => by
    rw [c1 c i (by omega), a1 c i (by omega)]
    exact g1 c i (by omega) (by omega)
  refine mf_133 (B0 := B3) (S := S) hn hiw (fun a ha => by rw [g3 115 a (by omega) (by omega), g3 116 a (by omega) (by omega)]; exact h115 a ha) ((g3 73 75 (by omega) (by omega)).trans h75) (fun B4 d1 d2 d3 => ?_) iw 0 B3 (by omega) (fun _ _ _ => rfl) (fun _ _ => rfl) c3
  have g4 : ∀ c i, ¬ (c = 73 ∧ (i = 5 ∨ i = 83 ∨ i = 145)) → ¬ (c = 155 ∨ c = 156 ∨ c = 167) → B4.1 c i = B.1 c i := fun c i q1 q2 => by
    rw [d1 c i (by omega)]
    exact g3 c i q1 q2
  refine b_Mo_compile_167 ⟨_, rfl, ?_⟩
  rw [g4 73 7 (by omega) (by omega), h7]
  refine kk B4 ⟨g4, fun c i => by rw [d2, c2, a2, h1.2.1]; rfl, ?_, ?_, ?_, d3, fun m q1 q2 => ?_, fun x q1 q2 => ?_⟩
  · rw [d1 73 5 (by omega), c1 73 5 (by omega), a1 73 5 (by omega), h1.1 73 5 (by omega)]
    exact zi_v
  · rw [d1 73 83 (by omega), c1 73 83 (by omega), a1 73 83 (by omega), h1.1 73 83 (by omega), zi_k (by decide)]
    exact zi_v
  · rw [d1 73 145 (by omega), c1 73 145 (by omega)]
    exact a3
  · rw [d1 155 m (by omega), c1 155 m (by omega), a1 155 m (by omega)]
    exact h1.2.2.1 m q1 q2
  · rw [d1 156 _ (by omega), c1 156 _ (by omega), a1 156 _ (by omega)]
    exact h1.2.2.2 x q1 q2
end CMM
