/-! BUILD on both sides: if, its end -/
/-- the NAMEs alike, but the words of vars -/
def EN2 (w : Nat) (Av : Nat → Nat → Prop) (S A B : zS) : Prop := ∀ e a r z, Av e a → r ≤ 1 → z ≤ 64 → S.1 12 e = nI r → S.1 13 e = nI z →
  (S.1 11 e = 0 → a + max 1 z ≤ 256 ∧ ∀ y, y < max 1 z → A.1 20 (a + y) = B.1 117 (a + y) ∧ ∀ x, x < bw w r → VC B (2 * (B.1 117 (a + y) + nI x))) ∧
  (S.1 11 e = 1 → a + max 1 z ≤ 256) ∧ (S.1 11 e = 2 → ∃ v, v < 2 ^ 32 ∧ A.2 48 e = lN v ∧ B.2 141 a = lN v) ∧ ¬ S.1 11 e = 3
/-- ahead of the end of an if -/
def IFz (w : Nat) (Av : Nat → Nat → Prop) (S T : zS) (i hc lo g vw nv : Nat) (vb vq vt : Nat → Nat) (u sd no : Nat) (bo : Nat → Nat) (p st : Nat) (A B : zS) : Prop :=
  ((CCo S A ∧ A.1 3 5 = 0 ∧ A.1 24 7 = 0 ∧ A.1 45 8 = nI ((hc + 1 + g) * w) ∧ A.1 45 16 = nI i ∧ A.1 45 18 = nI st ∧ A.1 45 13 = nI 0 ∧ A.1 45 12 = nI 0) ∧ (MCo T B ∧ B.1 73 85 = nI 0 ∧ B.1 73 70 = nI st ∧ B.1 73 110 = nI 0) ∧ RL A B ∧ st ≤ 100000 ∧ EN2 w Av S A B) ∧
  (B.1 73 94 = nI (sd + 1) ∧ B.1 73 101 = nI (u + 1) ∧ B.1 131 sd = nI p) ∧
  (nv ≤ vw ∧ vw ≤ 256 ∧ (∀ t, t < nv → B.1 133 t = nI (vb t) ∧ B.1 134 t = nI (vq t) ∧ B.1 135 t = nI (vt t) ∧ 1 ≤ vq t ∧ vb t + vq t ≤ vw ∧ (vt t = 1 ∨ vt t = w)) ∧ ∀ t, t + 1 < nv → vb t + vq t ≤ vb (t + 1)) ∧
  (∀ k, k < 256 * w → CNl (A.1 58 k)) ∧ OUx w no bo A B ∧ (A.1 57 (hc * w) = B.1 136 u ∧ VC B (B.1 136 u) ∧ B.1 137 u = nI nv) ∧
  (∀ t W x, t < nv → vb t ≤ W → W < vb t + vq t → x < vt t → (¬ B.1 138 u = 0 → B.1 140 (8192 * u + 32 * W + x) = ifV A ((hc + 1) * w) (lo * w) (g * w) (W * w + x) ∧ B.1 132 (32 * W + x) = A.1 58 (W * w + x)) ∧ (B.1 138 u = 0 → B.1 132 (32 * W + x) = ifV A ((hc + 1) * w) (lo * w) (g * w) (W * w + x) ∧ B.1 139 (8192 * u + 32 * W + x) = A.1 58 (W * w + x)) ∧ VC B (ifV A ((hc + 1) * w) (lo * w) (g * w) (W * w + x)) ∧ VC B (A.1 58 (W * w + x))) ∧
  ∀ k, CXn w Av S k → ifV A ((hc + 1) * w) (lo * w) (g * w) k = A.1 58 k
section YIE
variable {l : Launch} {Cx : Nat → Prop} {Gr : zG} {n w : Nat} {d : Nat} {Av : Nat → Nat → Prop} {S T A A' A1 A2 B B' B0 B1 B2 : zS} {e : Int32} {V L : Nat → Int32} {i hc st r i1 i2 i3 j j1 j2 j3 N M vw nv u sd no lo hi g lo' hi' p vwF : Nat} {vb vq vt bo : Nat → Nat}
theorem dmx_Rk : ∀ (c k : Nat) (R R' : Nat → Int32) (S : zS), (∀ i, ¬ V i = L i → R i = R' i) → ((dmxP e V L c k R).1 S).2 = ((dmxP e V L c k R').1 S).2 ∧ ∀ i, (¬ V i = L i → ((dmxP e V L c k R).1 S).1 i = ((dmxP e V L c k R').1 S).1 i) ∧ (V i = L i → ((dmxP e V L c k R).1 S).1 i = R i)
  | 0, _, R, R', S, h => ⟨rfl, fun i => ⟨h i, fun _ => rfl⟩⟩
  | c + 1, k, R, R', S, h => by
    rw [show dmxP e V L (c + 1) k R = if V k = L k then dmxP e V L c (k + 1) R else cBind (muxP e (V k) (L k)) fun o => dmxP e V L c (k + 1) (fun k' => if k' = k then o else R k') from rfl, show dmxP e V L (c + 1) k R' = if V k = L k then dmxP e V L c (k + 1) R' else cBind (muxP e (V k) (L k)) fun o => dmxP e V L c (k + 1) (fun k' => if k' = k then o else R' k') from rfl]
    by_cases y : V k = L k
    · rw [if_pos y, if_pos y]
      exact dmx_Rk c (k + 1) R R' S h
    · rw [if_neg y, if_neg y]
      have ih := dmx_Rk c (k + 1) (fun k' => if k' = k then ((muxP e (V k) (L k)).1 S).1 else R k') (fun k' => if k' = k then ((muxP e (V k) (L k)).1 S).1 else R' k') ((muxP e (V k) (L k)).1 S).2 (fun i q => by
        show (if i = k then _ else R i) = if i = k then _ else R' i
        rw [h i q])
      refine ⟨ih.1, fun i => ⟨(ih.2 i).1, fun q => ((ih.2 i).2 q).trans ?_⟩⟩
      show (if i = k then _ else R i) = R i
      rw [if_neg (fun z => y (by rw [← z]; exact q))]
theorem dmx_Rm : ∀ (c k : Nat) (R R' : Nat → Int32) (S : zS), (∀ i, ¬ V i = L i → R i = R' i) → ((dmxP e V L c k R).2 S).2 = ((dmxP e V L c k R').2 S).2 ∧ ∀ i, (¬ V i = L i → ((dmxP e V L c k R).2 S).1 i = ((dmxP e V L c k R').2 S).1 i) ∧ (V i = L i → ((dmxP e V L c k R).2 S).1 i = R i)
  | 0, _, R, R', S, h => ⟨rfl, fun i => ⟨h i, fun _ => rfl⟩⟩
  | c + 1, k, R, R', S, h => by
    rw [show dmxP e V L (c + 1) k R = if V k = L k then dmxP e V L c (k + 1) R else cBind (muxP e (V k) (L k)) fun o => dmxP e V L c (k + 1) (fun k' => if k' = k then o else R k') from rfl, show dmxP e V L (c + 1) k R' = if V k = L k then dmxP e V L c (k + 1) R' else cBind (muxP e (V k) (L k)) fun o => dmxP e V L c (k + 1) (fun k' => if k' = k then o else R' k') from rfl]
    by_cases y : V k = L k
    · rw [if_pos y, if_pos y]
      exact dmx_Rm c (k + 1) R R' S h
    · rw [if_neg y, if_neg y]
      have ih := dmx_Rm c (k + 1) (fun k' => if k' = k then ((muxP e (V k) (L k)).2 S).1 else R k') (fun k' => if k' = k then ((muxP e (V k) (L k)).2 S).1 else R' k') ((muxP e (V k) (L k)).2 S).2 (fun i q => by
        show (if i = k then _ else R i) = if i = k then _ else R' i
        rw [h i q])
      refine ⟨ih.1, fun i => ⟨(ih.2 i).1, fun q => ((ih.2 i).2 q).trans ?_⟩⟩
      show (if i = k then _ else R i) = R i
      rw [if_neg (fun z => y (by rw [← z]; exact q))]
theorem EN_2 (hw1 : 1 ≤ w) (h : EN w Av S 0 0 0 0 A B) : EN2 w Av S A B := fun e a r z h1 h2 h3 h4 h5 => by
  obtain ⟨k0, k1, k2, k3⟩ := h e a r z h1 h2 h3 h4 h5
  refine ⟨k0, fun q => (k1 q).1, k2, fun q => ?_⟩
  have := (k3 q).1
  omega
theorem EN2_k (h : EN2 w Av S A B) (f20 : ∀ k, A'.1 20 k = A.1 20 k) (f48 : ∀ k, A'.2 48 k = A.2 48 k) (g117 : ∀ k, B'.1 117 k = B.1 117 k) (g141 : ∀ k, B'.2 141 k = B.2 141 k) (vm : VM B B') : EN2 w Av S A' B' := fun e a r z h1 h2 h3 h4 h5 => by
  obtain ⟨k0, k1, k2, k3⟩ := h e a r z h1 h2 h3 h4 h5
  refine ⟨fun q => ⟨(k0 q).1, fun y hy => ?_⟩, k1, fun q => by rw [f48, g141]; exact k2 q, k3⟩
  rw [f20, g117]
  exact ⟨((k0 q).2 y hy).1, fun x hx => vm _ (((k0 q).2 y hy).2 x hx)⟩
theorem EN2_E (h : EN2 w Av S A B) (hk : VLk w nv vb vq vt Av S) (hv : ∀ t W x, t < nv → vb t ≤ W → W < vb t + vq t → x < vt t → A.1 58 (W * w + x) = B.1 132 (32 * W + x) ∧ VC B (B.1 132 (32 * W + x))) : EN w Av S 0 0 0 0 A B := fun e a r z h1 h2 h3 h4 h5 => by
  obtain ⟨k0, k1, k2, k3⟩ := h e a r z h1 h2 h3 h4 h5
  refine ⟨k0, fun q => ⟨k1 q, fun y x hy hx => ?_⟩, k2, fun q => absurd q k3⟩
  obtain ⟨t, t1, t2, t3, t4⟩ := hk e a r z h1 q h2 h4 h3 h5
  exact hv t (a + y) x t1 (by omega) (by omega) (by omega)
theorem wx_u {W W' x x' : Nat} (h : W * w + x = W' * w + x') (h1 : x < w) (h2 : x' < w) : W = W' ∧ x = x' := by
  rcases Nat.lt_trichotomy W W' with y | y | y
  · have : W * w + w ≤ W' * w := by rw [← Nat.succ_mul]; exact Nat.mul_le_mul_right _ y
    omega
  · subst y
    exact ⟨rfl, by omega⟩
  · have : W' * w + w ≤ W * w := by rw [← Nat.succ_mul]; exact Nat.mul_le_mul_right _ y
    omega
theorem gap_n (hw1 : 1 ≤ w) (hk : VLk w nv vb vq vt Av S) {W x : Nat} (hx : x < w) (h : ∀ t, t < nv → ¬ (vb t ≤ W ∧ W < vb t + vq t ∧ x < vt t)) : CXn w Av S (W * w + x) := fun e a r z h1 h2 h3 h4 h5 h6 y x' hy hx' q => by
  obtain ⟨t, t1, t2, t3, t4⟩ := hk e a r z h1 h2 h3 h4 h5 h6
  have hb := bw_le (w := w) (r := r) hw1
  obtain ⟨u1, u2⟩ := wx_u q hx (by omega)
  exact h t t1 ⟨by omega, by omega, by omega⟩
end YIE
