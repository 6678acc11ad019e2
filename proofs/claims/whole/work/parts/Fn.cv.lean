/-! a circuit's own values -/
/-- wires' values behind g gates of T -/
def cvG (T : zS) (inb : Nat → Nat) (wb : Nat) : Nat → Nat → Nat
  | 0, t => inb t
  | g + 1, t => if t = wb + g then (if T.1 111 g = 1 then litV (cvG T inb wb g) (T.1 113 g) * litV (cvG T inb wb g) (T.1 114 g) else (litV (cvG T inb wb g) (T.1 113 g) + litV (cvG T inb wb g) (T.1 114 g)) % 2) else cvG T inb wb g t
/-- gates' literals are there before them -/
def GVl (T : zS) (wb G : Nat) : Prop := ∀ g, g < G → (∃ a, a < 2 * (wb + g) ∧ T.1 113 g = nI a) ∧ ∃ b, b < 2 * (wb + g) ∧ T.1 114 g = nI b
section CVG
variable {T T' : zS} {inb : Nat → Nat} {wb G g t a : Nat} {W W' : Nat → Nat} {x : Int32}
theorem cvG_01 (hi : ∀ t, inb t = 0 ∨ inb t = 1) : ∀ g t, cvG T inb wb g t = 0 ∨ cvG T inb wb g t = 1
  | 0, t => hi t
  | g + 1, t => by
    show (if t = wb + g then _ else cvG T inb wb g t) = 0 ∨ (if t = wb + g then _ else cvG T inb wb g t) = 1
    by_cases z : t = wb + g
    · rw [if_pos z]
      have l1 := litV_01 (cvG_01 hi g) (T.1 113 g)
      have l2 := litV_01 (cvG_01 hi g) (T.1 114 g)
      split
      · rcases l1 with e | e <;> rcases l2 with e' | e' <;> rw [e, e'] <;> omega
      · omega
    · rw [if_neg z]
      exact cvG_01 hi g t
theorem cvG_lo (ht : t < wb + g) : ∀ d, cvG T inb wb (g + d) t = cvG T inb wb g t
  | 0 => rfl
  | d + 1 => by
    show (if t = wb + (g + d) then _ else cvG T inb wb (g + d) t) = _
    rw [if_neg (by omega)]
    exact cvG_lo ht d
theorem lit_cg (ha : a < 2 * wb) (hb : wb < 2 ^ 29) (h : ∀ t, t < wb → W t = W' t) : litV W (nI a) = litV W' (nI a) := by
  rw [litV_n (nI_pos (by omega)), litV_n (nI_pos (by omega)), shr_n (by omega), nI_clamp (by omega), h _ (by omega)]
theorem cvG_cg (hT : ∀ c k, 111 ≤ c → c ≤ 114 → k < g → T'.1 c k = T.1 c k) : ∀ k, k ≤ g → cvG T' inb wb k = cvG T inb wb k
  | 0, _ => rfl
  | k + 1, hk => by
    have ih := cvG_cg hT k (by omega)
    funext t
    show (if t = wb + k then (if T'.1 111 k = 1 then litV (cvG T' inb wb k) (T'.1 113 k) * litV (cvG T' inb wb k) (T'.1 114 k) else (litV (cvG T' inb wb k) (T'.1 113 k) + litV (cvG T' inb wb k) (T'.1 114 k)) % 2) else cvG T' inb wb k t) = _
    rw [ih, hT 111 k (by omega) (by omega) (by omega), hT 113 k (by omega) (by omega) (by omega), hT 114 k (by omega) (by omega) (by omega)]
    rfl
/-- the values are those of T's circuit -/
theorem cvG_gt (hi : ∀ t, inb t = 0 ∨ inb t = 1) (hwb : wb ≤ 8192) (hG : G ≤ 40000) (hv : GVl T wb G) (h7 : T.1 73 7 = 0) (e65 : T.1 73 65 = nI wb) (e66 : T.1 73 66 = nI G) : gtW T (cvG T inb wb G) := by
  refine ⟨cvG_01 hi G, h7, wb, G, hwb, hG, e65, e66, fun g hg => ?_⟩
  obtain ⟨⟨a, ha, ea⟩, b, hb, eb⟩ := hv g hg
  have e1 : cvG T inb wb G (wb + g) = cvG T inb wb (g + 1) (wb + g) := by
    have := cvG_lo (T := T) (inb := inb) (wb := wb) (g := g + 1) (t := wb + g) (by omega) (G - (g + 1))
    rw [show g + 1 + (G - (g + 1)) = G by omega] at this
    exact this
  have e2 : ∀ t, t < wb + g → cvG T inb wb G t = cvG T inb wb g t := fun t ht => by
    have := cvG_lo (T := T) (inb := inb) (wb := wb) (g := g) (t := t) ht (G - g)
    rw [show g + (G - g) = G by omega] at this
    exact this
  rw [e1, ea, eb, lit_cg (wb := wb + g) ha (by omega) e2, lit_cg (wb := wb + g) hb (by omega) e2]
  show (if wb + g = wb + g then (if T.1 111 g = 1 then litV (cvG T inb wb g) (T.1 113 g) * litV (cvG T inb wb g) (T.1 114 g) else (litV (cvG T inb wb g) (T.1 113 g) + litV (cvG T inb wb g) (T.1 114 g)) % 2) else cvG T inb wb g (wb + g)) = _
  rw [if_pos rfl, ea, eb]
/-- a literal keeps its value while the circuit grows -/
theorem cvG_gr {G' : Nat} (hGG : G ≤ G') (hG : G' ≤ 40000) (hwb : wb ≤ 8192) (hT : ∀ c k, 111 ≤ c → c ≤ 114 → k < G → T'.1 c k = T.1 c k) (ha : a < 2 * (wb + G)) : litV (cvG T' inb wb G') (nI a) = litV (cvG T inb wb G) (nI a) := by
  refine lit_cg (wb := wb + G) ha (by omega) (fun t ht => ?_)
  have e := cvG_lo (T := T') (inb := inb) (wb := wb) (g := G) (t := t) ht (G' - G)
  rw [show G + (G' - G) = G' by omega] at e
  rw [e, cvG_cg hT G (Nat.le_refl _)]
end CVG
