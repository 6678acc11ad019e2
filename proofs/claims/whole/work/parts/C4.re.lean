/-! both circuits side by side -/
theorem and1 (x : Int32) : x &&& 1 = 0 ∨ x &&& 1 = 1 := by
  have h : (x &&& 1).toBitVec = 0#32 ∨ (x &&& 1).toBitVec = 1#32 := by
    rw [Int32.toBitVec_and]
    by_cases z : x.toBitVec.getLsbD 0
    · right
      ext i hi
      simp
      intro h
      subst h
      simpa using z
    · left
      ext i hi
      simp
      intro h1 h2
      subst h2
      simp_all
  exact h.imp (fun e => Int32.toBitVec_inj.mp e) (fun e => Int32.toBitVec_inj.mp e)
theorem shr_n {k : Nat} (h : k < 2 ^ 31) : nI k >>> (1 &&& 31) = nI (k / 2) := by
  have e : ((1 : Int32) &&& 31) = 1 := by decide
  rw [e]
  apply Int32.toBitVec_inj.mp
  rw [Int32.toBitVec_shiftRight]
  have m : (Int32.ofNat k).toBitVec.msb = false := by
    simp [BitVec.msb_eq_decide]
    omega
  show (Int32.ofNat k).toBitVec.sshiftRight' _ = (Int32.ofNat (k / 2)).toBitVec
  simp only [BitVec.sshiftRight_eq']
  rw [BitVec.sshiftRight_eq_of_msb_false m]
  apply BitVec.eq_of_toNat_eq
  simp [Nat.shiftRight_eq_div_pow]
  omega
theorem shr_x (x y : Int32) : (x ^^^ (y &&& 1)) >>> (1 &&& 31) = x >>> (1 &&& 31) := by
  have e : ((1 : Int32) &&& 31) = 1 := by decide
  rw [e]
  apply Int32.toBitVec_inj.mp
  rw [Int32.toBitVec_shiftRight, Int32.toBitVec_shiftRight]
  simp only [Int32.toBitVec_xor, Int32.toBitVec_and, BitVec.sshiftRight_eq']
  ext i hi
  simp [BitVec.getElem_sshiftRight]
theorem sgn_x (x y : Int32) : 0 ≤ x ^^^ (y &&& 1) ↔ 0 ≤ x := by
  have key : ∀ z : Int32, 0 ≤ z ↔ z.toBitVec.msb = false := fun z => by
    rw [Int32.le_iff_toInt_le]
    have h2 : z.toInt = z.toBitVec.toInt := rfl
    rw [h2, show (0 : Int32).toInt = 0 from rfl]
    rw [BitVec.msb_eq_toInt]
    simp
  rw [key, key, Int32.toBitVec_xor, Int32.toBitVec_and, BitVec.msb_xor, BitVec.msb_and]
  have : (1 : Int32).toBitVec.msb = false := by decide
  rw [this]
  simp
def cAn (T : zS) : Nat → Int32
  | 0 => 0
  | k + 1 => cAn T k + T.1 111 k
theorem nI_ex {x : Int32} (h : 0 ≤ x) : ∃ a, a < 2 ^ 31 ∧ x = nI a := by
  have h1 : 0 ≤ x.toInt := by
    have := Int32.le_iff_toInt_le.mp h
    exact this
  have h2 : x.toInt < 2 ^ 31 := Int32.toInt_lt x
  refine ⟨x.toInt.toNat, by omega, ?_⟩
  apply Int32.toInt_inj.mp
  rw [nI_toInt (by omega)]
  omega
theorem and_m2 (x : Int32) : x &&& (-2) = x ^^^ (x &&& 1) := by
  apply Int32.toBitVec_inj.mp
  rw [Int32.toBitVec_and, Int32.toBitVec_xor, Int32.toBitVec_and]
  have e : (-2 : Int32).toBitVec = ~~~ (1 : Int32).toBitVec := by decide
  rw [e]
  ext i hi
  simp only [BitVec.getElem_and, BitVec.getElem_xor, BitVec.getElem_not]
  cases x.toBitVec[i] <;> cases (1 : Int32).toBitVec[i] <;> rfl
theorem VL_nat {T : zS} {x : Int32} {iw g : Nat} (h0 : 0 ≤ x) (hx : VL T x) (h65 : T.1 73 65 = nI iw) (h66 : T.1 73 66 = nI g) (hi : iw ≤ 8192) (hg : g ≤ 40000) : ∃ a, a < 2 * (iw + g) ∧ x = nI a := by
  obtain ⟨a, ha, rfl⟩ := nI_ex h0
  rcases hx with hx | hx
  · exact absurd h0 hx
  · rw [shr_n ha, h65, h66, Int32.lt_iff_toInt_lt, Int32.toInt_sub, nI_toInt (by omega), nI_toInt (by omega), nI_toInt (by omega), Int.bmod_eq_of_le (by omega) (by omega)] at hx
    exact ⟨a, by omega, rfl⟩
/-- one gate as it must be: its literals, its level -/
def WG1 (T : zS) (iw k : Nat) : Prop := (T.1 111 k = 0 ∨ T.1 111 k = 1) ∧ (∃ a, a < 2 * (iw + k) ∧ T.1 113 k = nI a) ∧ (∃ b, b < 2 * (iw + k) ∧ T.1 114 k = nI b) ∧ ∃ L Dm, L ≤ Dm ∧ Dm ≤ 2000 ∧ T.1 112 k = nI L ∧ T.1 73 68 = nI Dm ∧ (T.1 111 k = 1 → 1 ≤ L)
theorem WG1_E {T T' : zS} {iw k : Nat} (h : WG1 T iw k) (e : ∀ c, 111 ≤ c → c ≤ 114 → T'.1 c k = T.1 c k) (e68 : T'.1 73 68 = T.1 73 68) : WG1 T' iw k := by
  unfold WG1 at h ⊢
  rw [e 111 (by omega) (by omega), e 112 (by omega) (by omega), e 113 (by omega) (by omega), e 114 (by omega) (by omega), e68]
  exact h
/-- the circuits are alike -/
def CEQ (S T : zS) : Prop := ∃ g iw, g ≤ 40000 ∧ iw ≤ 8192 ∧ S.1 24 4 = nI g ∧ T.1 73 66 = nI g ∧ S.1 24 8 = nI iw ∧ T.1 73 65 = nI iw ∧ S.1 24 5 = T.1 73 67 ∧ T.1 73 67 = cAn T g ∧ S.1 24 6 = T.1 73 68 ∧ (∃ Dm, Dm ≤ 2000 ∧ T.1 73 68 = nI Dm) ∧ ∀ k, k < g → (S.1 25 k = T.1 113 k ∧ S.1 26 k = T.1 114 k ∧ S.1 27 k = T.1 112 k ∧ S.1 28 k = (if T.1 111 k = 0 then -1 else cAn T k)) ∧ WG1 T iw k
/-- what the class's circuit may change, and what the reference's -/
def KX (S S' : zS) : Prop := (∀ c k, ¬ (c = 24 ∧ 4 ≤ k ∧ k ≤ 7) → ¬ (25 ≤ c ∧ c ≤ 28) → S'.1 c k = S.1 c k) ∧ ∀ c k, S'.2 c k = S.2 c k
def KXm (T T' : zS) : Prop := (∀ c k, ¬ (c = 73 ∧ (k = 7 ∨ k = 8 ∨ k = 66 ∨ k = 67 ∨ k = 68)) → ¬ (111 ≤ c ∧ c ≤ 114) → T'.1 c k = T.1 c k) ∧ ∀ c k, T'.2 c k = T.2 c k
/-- the reference alone: room, literals, FAULT -/
def MOK (T T' : zS) : Prop := GM T' ∧ (∃ iw, iw ≤ 8192 ∧ T'.1 73 65 = nI iw) ∧ (∀ x, VL T x → VL T' x) ∧ KXm T T' ∧ (¬ T.1 73 7 = 0 → T'.1 73 7 = T.1 73 7 ∧ T'.1 73 8 = T.1 73 8)
def MW (T : zS) : Prop := GM T ∧ ∃ iw, iw ≤ 8192 ∧ T.1 73 65 = nI iw
section CRE
variable {S S' S'' T T' T'' : zS} {x y a h v c x' y' c' pl : Int32} {g k : Nat}
theorem KX_rfl : KX S S := ⟨fun _ _ _ _ => rfl, fun _ _ => rfl⟩
theorem KX_tr (h1 : KX S S') (h2 : KX S' S'') : KX S S'' := ⟨fun c k q1 q2 => (h2.1 c k q1 q2).trans (h1.1 c k q1 q2), fun c k => (h2.2 c k).trans (h1.2 c k)⟩
theorem KXm_rfl : KXm T T := ⟨fun _ _ _ _ => rfl, fun _ _ => rfl⟩
theorem KXm_tr (h1 : KXm T T') (h2 : KXm T' T'') : KXm T T'' := ⟨fun c k q1 q2 => (h2.1 c k q1 q2).trans (h1.1 c k q1 q2), fun c k => (h2.2 c k).trans (h1.2 c k)⟩
theorem MOK_rfl (h : MW T) : MOK T T := ⟨h.1, h.2, fun _ q => q, KXm_rfl, fun _ => ⟨rfl, rfl⟩⟩
theorem MOK_tr (h1 : MOK T T') (h2 : MOK T' T'') : MOK T T'' := ⟨h2.1, h2.2.1, fun x q => h2.2.2.1 x (h1.2.2.1 x q), KXm_tr h1.2.2.2.1 h2.2.2.2.1, fun q => by
  have e := h1.2.2.2.2 q
  have e2 := h2.2.2.2.2 (by rw [e.1]; exact q)
  exact ⟨e2.1.trans e.1, e2.2.trans e.2⟩⟩
theorem MOK_W (h : MOK T T') : MW T' := ⟨h.1, h.2.1⟩
theorem VL_neg (h : ¬ 0 ≤ x) : VL T x := Or.inl h
theorem VL_x (h : VL T x) : VL T (x ^^^ (y &&& 1)) := by
  rcases h with h | h
  · exact Or.inl (fun q => h ((sgn_x x y).mp q))
  · right
    rw [shr_x]
    exact h
theorem VL_f (h : VL T x) : VL T (x ^^^ 1) := by
  have := VL_x (y := 1) h
  rw [show (1 : Int32) &&& 1 = 1 by decide] at this
  exact this
theorem nI_mul2 (m : Nat) : 2 * nI m = nI (2 * m) := (Int32.ofNat_mul 2 m).symm
theorem ng_v {iw : Nat} (hi : iw ≤ 8192) (hg : g ≤ 40000) : 2 * ((nI iw + (nI g + 1)) - 1) = nI (2 * (iw + g)) := by
  rw [nI_1, nI_add, show iw + (g + 1) = (iw + g) + 1 by omega, nI_pred, nI_mul2]
/-- a new gate of the reference -/
theorem m_ng (hW : MW T) (ha : a = 0 ∨ a = 1) : MOK T (mNG T a x y h).2 ∧ VL (mNG T a x y h).2 (mNG T a x y h).1 ∧ mPla (mNG T a x y h).2 = mPla T := by
  obtain ⟨⟨⟨g, hg, h66⟩, q, hq, h94⟩, iw, hi, h65⟩ := hW
  unfold mNG
  by_cases z : mNGf T h
  · rw [if_pos z]
    have key : ∀ c k, ¬ (c = 73 ∧ (k = 7 ∨ k = 8)) → (mT T 8 (mPla T)).1 c k = T.1 c k := fun c k hc => by
      unfold mT
      split
      · exact mF_c' hc
      · rfl
    refine ⟨⟨⟨⟨g, hg, (key 73 66 (by omega)).trans h66⟩, q, hq, (key 73 94 (by omega)).trans h94⟩, ⟨iw, hi, (key 73 65 (by omega)).trans h65⟩, fun x hx => ?_, ⟨fun c k q1 q2 => key c k (by omega), fun c k => ?_⟩, fun h7 => ?_⟩, Or.inl (show ¬ (0 : Int32) ≤ -2 by decide), ?_⟩
    · unfold VL
      show _ ∨ _ - (mT T 8 (mPla T)).1 73 65 < (mT T 8 (mPla T)).1 73 66
      rw [key 73 65 (by omega), key 73 66 (by omega)]
      exact hx
    · show (mT T 8 (mPla T)).2 c k = _
      unfold mT
      split <;> rfl
    · show (mT T 8 (mPla T)).1 73 7 = _ ∧ (mT T 8 (mPla T)).1 73 8 = _
      unfold mT
      rw [if_neg h7]
      exact ⟨rfl, rfl⟩
    · show mPla (mT T 8 (mPla T)) = mPla T
      obtain ⟨p, ep⟩ : ∃ p, p = mPla T := ⟨_, rfl⟩
      rw [← ep] at key ⊢
      have e1 : mPla (mT T 8 p) = mPla T := by
        unfold mPla
        rw [key 73 94 (by omega), key 131 _ (by omega)]
      rw [e1, ep]
  · rw [if_neg z]
    have hlt : g < 40000 := by
      by_cases q : g = 40000
      · exact absurd (Or.inl (by rw [h66, q]; rfl)) z
      · omega
    obtain ⟨X, eX⟩ : ∃ X, X = mNGs T a x y h := ⟨_, rfl⟩
    have key : ∀ c k, ¬ (c = 73 ∧ (k = 66 ∨ k = 67 ∨ k = 68)) → ¬ (111 ≤ c ∧ c ≤ 114) → X.1 c k = T.1 c k := fun c k q1 q2 => by
      rw [eX]
      unfold mNGs
      rw [zi_get, if_neg (by omega), zi_get, if_neg (by omega), zi_get, if_neg (by omega), zi_get, if_neg (by omega), zi_get, if_neg (by omega), zi_get, if_neg (by omega), zi_get, if_neg (by omega)]
    have x66 : X.1 73 66 = nI (g + 1) := by
      rw [eX]
      unfold mNGs
      rw [zi_k (by decide), zi_k (by decide), zi_v, h66, nI_1]
    show MOK T (mNGs T a x y h) ∧ VL (mNGs T a x y h) (2 * ((T.1 73 65 + (T.1 73 66 + 1)) - 1)) ∧ mPla (mNGs T a x y h) = mPla T
    rw [← eX]
    refine ⟨⟨⟨⟨g + 1, by omega, x66⟩, q, hq, (key 73 94 (by omega) (by omega)).trans h94⟩, ⟨iw, hi, (key 73 65 (by omega) (by omega)).trans h65⟩, fun x hx => ?_, ⟨fun c k q1 q2 => key c k (by omega) q2, fun c k => by rw [eX]; rfl⟩, fun h7 => ⟨key 73 7 (by omega) (by omega), key 73 8 (by omega) (by omega)⟩⟩, ?_, ?_⟩
    · rcases hx with hx | hx
      · exact Or.inl hx
      · right
        rw [key 73 65 (by omega) (by omega), x66]
        rw [h66] at hx
        exact Int32.lt_trans hx ((nI_ltI (by omega) (by omega)).mpr (by omega))
    · right
      rw [h65, h66, ng_v hi hg, shr_n (by omega), show 2 * (iw + g) / 2 = iw + g by omega, key 73 65 (by omega) (by omega), h65, pk_sub (by omega), x66, show iw + g - iw = g by omega]
      exact (nI_ltI (by omega) (by omega)).mpr (by omega)
    · unfold mPla
      rw [key 73 94 (by omega) (by omega), key 131 _ (by omega) (by omega)]
end CRE
