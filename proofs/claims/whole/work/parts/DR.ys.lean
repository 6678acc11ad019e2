/-! BUILD on both sides: what is alike between statements -/
/-- the reference's visible vars: base, words, width -/
def VSx (w nv vw : Nat) (vb vq vt : Nat → Nat) (B : zS) : Prop := B.1 73 97 = nI nv ∧ nv ≤ vw ∧ vw ≤ 256 ∧ (∀ t, t < nv → B.1 133 t = nI (vb t) ∧ B.1 134 t = nI (vq t) ∧ B.1 135 t = nI (vt t) ∧ 1 ≤ vq t ∧ vb t + vq t ≤ vw ∧ (vt t = 1 ∨ vt t = w)) ∧ ∀ t, t + 1 < nv → vb t + vq t ≤ vb (t + 1)
def VLk (w nv : Nat) (vb vq vt : Nat → Nat) (Av : Nat → Nat → Prop) (S : zS) : Prop := ∀ e a r z, Av e a → S.1 11 e = 1 → r ≤ 1 → S.1 12 e = nI r → z ≤ 64 → S.1 13 e = nI z → ∃ t, t < nv ∧ vb t = a ∧ vq t = max 1 z ∧ vt t = bw w r
/-- the outputs so far -/
def OUx (w no : Nat) (bo : Nat → Nat) (A B : zS) : Prop := A.1 24 11 = nI no ∧ B.1 73 69 = nI no ∧ bo 0 = 0 ∧ (∀ t, t ≤ no → A.1 31 t = nI (bo t) ∧ bo t ≤ t * w) ∧ ∀ t, t < no → ∃ m, (m = 1 ∨ m = w) ∧ B.1 120 t = nI m ∧ bo (t + 1) = bo t + m ∧ ∀ x, x < m → A.1 32 (bo t + x) = B.1 121 (32 * t + x) ∧ VC B (B.1 121 (32 * t + x))
def YE (w : Nat) (Av : Nat → Nat → Prop) (S : zS) (vw nv : Nat) (vb vq vt : Nat → Nat) (u sd no : Nat) (bo : Nat → Nat) (A B : zS) : Prop := B.1 73 94 = nI sd ∧ B.1 73 101 = nI u ∧ VSx w nv vw vb vq vt B ∧ VLk w nv vb vq vt Av S ∧ (∀ k, k < 256 * w → CNl (A.1 58 k)) ∧ OUx w no bo A B
/-- XS without the place -/
def YB (w : Nat) (Av : Nat → Nat → Prop) (S T : zS) (i hc st : Nat) (A B : zS) : Prop := (CCo S A ∧ A.1 3 5 = 0 ∧ A.1 24 7 = 0 ∧ A.1 45 8 = nI (hc * w) ∧ A.1 45 16 = nI i ∧ A.1 45 18 = nI st ∧ A.1 45 13 = nI 0 ∧ A.1 45 12 = nI 0) ∧ (MCo T B ∧ B.1 73 85 = nI 0 ∧ B.1 73 70 = nI st ∧ B.1 73 110 = nI 0) ∧ RL A B ∧ st ≤ 100000 ∧ EN w Av S 0 0 0 0 A B
def TRz (l : Launch) (Gr : zG) (n w d : Nat) (Z Z' : Nat → zS → zS → Prop) (Fr : zS → zS → zS → zS → Prop) (c : Int) (j j' st : Nat) (A : zS) : Prop := ∃ k A', CGo l Gr n w d k A A' ∧ KBc A A' ∧ ((∃ st' : Nat, st ≤ st' ∧ (k : Int) + c ≤ 300 * ((st' : Int) - st) ∧ ∀ B, Z st A B → ∃ B', MGo l Gr n w d B j B' j' ∧ Z' st' A' B' ∧ Fr A A' B B') ∨ ((k : Int) ≤ 300 * (100001 - (st : Int)) + 300 ∧ ∀ B, Z st A B → ∃ B' j'', MGo l Gr n w d B j B' j'' ∧ KBm B B' ∧ FBT A' B'))
section YST
variable {l : Launch} {Gr : zG} {n w : Nat} {d : Nat} {Av : Nat → Nat → Prop} {S T A A' A1 A2 B B' B0 B1 B2 : zS} {Z Z1 Z2 : Nat → zS → zS → Prop} {Fr : zS → zS → zS → zS → Prop} {c c1 c2 : Int} {cf rf cd hb hrb i i' hc hr st r i1 j j' j1 j2 N M z e vw nv u sd no p : Nat} {vb vq vt bo : Nat → Nat}
theorem TRz_seq (h0 : Z st A B0) (h1 : TRz l Gr n w d Z Z1 Fr c1 j j1 st A) (hc1 : 0 ≤ c1) (hZ : ∀ st A B, Z1 st A B → st ≤ 100000) (hF : ∀ A A1 A2 B B1 B2, Fr A A1 B B1 → Fr A1 A2 B1 B2 → Fr A A2 B B2) (hK : ∀ A A1 B B1, Fr A A1 B B1 → KBm B B1) (h2 : ∀ A1 B1 st1, st ≤ st1 → Z1 st1 A1 B1 → TRz l Gr n w d Z1 Z2 Fr c2 j1 j2 st1 A1) : TRz l Gr n w d Z Z2 Fr (c1 + c2) j j2 st A := by
  obtain ⟨k1, A1, g1, kb1, ⟨st1, s1, b1, m1⟩ | ⟨b1, m1⟩⟩ := h1
  · obtain ⟨B01, -, z01, -⟩ := m1 B0 h0
    have hst1 := hZ _ _ _ z01
    obtain ⟨k2, A2, g2, kb2, ⟨st2, s2, b2, m2⟩ | ⟨b2, m2⟩⟩ := h2 A1 B01 st1 s1 z01
    · refine ⟨k1 + k2, A2, CGo_tr g1 g2, KBc_tr kb1 kb2, Or.inl ⟨st2, by omega, by omega, fun B hB => ?_⟩⟩
      obtain ⟨B1, n1, z1, f1⟩ := m1 B hB
      obtain ⟨B2, n2, z2, f2⟩ := m2 B1 z1
      exact ⟨B2, MGo_tr n1 n2, z2, hF _ _ _ _ _ _ f1 f2⟩
    · refine ⟨k1 + k2, A2, CGo_tr g1 g2, KBc_tr kb1 kb2, Or.inr ⟨by omega, fun B hB => ?_⟩⟩
      obtain ⟨B1, n1, z1, f1⟩ := m1 B hB
      obtain ⟨B2, j3, n2, kb, fb⟩ := m2 B1 z1
      exact ⟨B2, j3, MGo_tr n1 n2, KBm_tr (hK _ _ _ _ f1) kb, fb⟩
  · exact ⟨k1, A1, g1, kb1, Or.inr ⟨b1, m1⟩⟩
theorem TRz_le (h : TRz l Gr n w d Z Z1 Fr c1 j j1 st A) (hc : c2 ≤ c1) : TRz l Gr n w d Z Z1 Fr c2 j j1 st A := by
  obtain ⟨k1, A1, g1, kb1, ⟨st1, s1, b1, m1⟩ | b1⟩ := h
  · exact ⟨k1, A1, g1, kb1, Or.inl ⟨st1, s1, by omega, m1⟩⟩
  · exact ⟨k1, A1, g1, kb1, Or.inr b1⟩
theorem YB_X (h : YB w Av S T i hc st A B) (hp : A.1 45 17 = mPla B) : XS w Av S T 0 0 0 0 0 i hc 0 st A B := ⟨h.1, ⟨h.2.1.1, h.2.1.2.1, h.2.1.2.2.1, h.2.1.2.2.2, fun q => absurd q (by omega)⟩, h.2.2.1, hp, h.2.2.2.1, Nat.zero_le _, Nat.zero_le _, h.2.2.2.2⟩
theorem X_YB (h : XS w Av S T 0 0 0 0 0 i hc 0 st A B) : YB w Av S T i hc st A B := ⟨h.1, ⟨h.2.1.1, h.2.1.2.1, h.2.1.2.2.1, h.2.1.2.2.2.1⟩, h.2.2.1, h.2.2.2.2.1, h.2.2.2.2.2.2.2⟩
theorem YE_k {hc' hr' cd' : Nat} (h : YE w Av S vw nv vb vq vt u sd no bo A B) (f : FK (PXc w hc' cd') A A') (g : FM (PXm hr' cd') B B') (v : VM B B') : YE w Av S vw nv vb vq vt u sd no bo A' B' := by
  obtain ⟨y1, y2, ⟨y3, y4, y5, y6, y7⟩, y8, y9, o1, o2, o3, o4, o5⟩ := h
  have g' : ∀ c k, (c = 73 ∧ (k = 69 ∨ k = 94 ∨ k = 97 ∨ k = 101)) ∨ c = 120 ∨ c = 121 ∨ (133 ≤ c ∧ c ≤ 135) → B'.1 c k = B.1 c k := fun c k q => g.1 c k (by omega) (by omega) (by unfold PXm; omega)
  have f' : ∀ c k, (c = 24 ∧ k = 11) ∨ c = 31 ∨ c = 32 ∨ c = 58 → A'.1 c k = A.1 c k := fun c k q => f.1 c k (by omega) (by omega) (by unfold PXc; omega)
  refine ⟨(g' 73 94 (by omega)).trans y1, (g' 73 101 (by omega)).trans y2, ⟨(g' 73 97 (by omega)).trans y3, y4, y5, fun t ht => ?_, y7⟩, y8, fun k hk => by rw [f' 58 k (by omega)]; exact y9 k hk, (f' 24 11 (by omega)).trans o1, (g' 73 69 (by omega)).trans o2, o3, fun t ht => by rw [f' 31 t (by omega)]; exact o4 t ht, fun t ht => ?_⟩
  · rw [g' 133 t (by omega), g' 134 t (by omega), g' 135 t (by omega)]
    exact y6 t ht
  · obtain ⟨m, q1, q2, q3, q4⟩ := o5 t ht
    refine ⟨m, q1, (g' 120 t (by omega)).trans q2, q3, fun x hx => ?_⟩
    rw [f' 32 _ (by omega), g' 121 _ (by omega)]
    exact ⟨(q4 x hx).1, v _ (q4 x hx).2⟩
end YST
