/-! a program's run in the reference: what it reckons holds of its answer -/
def GdT (wb : Nat) (T : zS) : Prop := MW T ∧ T.1 73 65 = nI wb ∧ wb ≤ 8192 ∧ ∃ G, G ≤ 40000 ∧ T.1 73 66 = nI G ∧ GVl T wb G
def cvT (inb : Nat → Nat) (wb : Nat) (T : zS) : Nat → Nat := cvG T inb wb (T.1 73 66).toNatClampNeg
/-- x's value in T's own circuit -/
def Vk (inb : Nat → Nat) (wb : Nat) (T : zS) (x : Int32) (s : Bool) : Prop := T.1 73 7 = 0 → T.1 73 65 = nI wb → wb ≤ 8192 → VC T x ∧ litV (cvT inb wb T) x = s.toNat
def Exk (T T' : zS) : Prop := T' = T ∨ Gw T T'
section RUN
variable {α : Type} {T T' : zS} {inb : Nat → Nat} {wb G : Nat} {x y a h : Int32} {b s t : Bool} {p : CP α} {R : zS → α → Prop}
theorem VC_x1 (h : VC T x) : VC T (x ^^^ 1) := by
  refine ⟨?_, CN_x1 h.2⟩
  rcases h.1 with q | q
  · left
    rw [Int32.not_le] at q ⊢
    exact x1_sg.mpr q
  · right
    rw [show (x ^^^ 1) >>> (1 &&& 31) = x >>> (1 &&& 31) from shr_x x 1]
    exact q
/-- values are kept while the circuit grows -/
theorem Vk_gr (hg : Gw T T') (hv : Vk inb wb T x s) : Vk inb wb T' x s := fun h7 h65 hwb => by
  obtain ⟨g, g', a1, a2, a3, a4, a5, a6, a7⟩ := hg
  have t7 : T.1 73 7 = 0 := Decidable.not_not.mp (fun q => a7 q h7)
  have t65 : T.1 73 65 = nI wb := by rw [← a5]; exact h65
  obtain ⟨vc, vl⟩ := hv t7 t65 hwb
  have c1 : (T.1 73 66).toNatClampNeg = g := by rw [a3]; exact nI_clamp (by omega)
  have c2 : (T'.1 73 66).toNatClampNeg = g' := by rw [a4]; exact nI_clamp (by omega)
  unfold cvT at vl ⊢
  rw [c1] at vl
  rw [c2]
  by_cases z : x < 0
  · refine ⟨⟨Or.inl (Int32.not_le.mpr z), vc.2⟩, ?_⟩
    rw [litV_c z] at vl ⊢
    exact vl
  · obtain ⟨a, ha, rfl⟩ := nI_of z
    have hl := vc_lt (by omega) hwb t65 a3 ha vc
    refine ⟨⟨Or.inr ?_, vc.2⟩, ?_⟩
    · rw [shr_n ha, h65, a4]
      by_cases y : a / 2 < wb
      · exact Int32.lt_of_lt_of_le (nI_sngL y (by omega)) (nI_pos' (by omega))
      · rw [sub_nn (by omega)]
        exact (nI_ltI (by omega) (by omega)).mpr (by omega)
    · rw [cvG_gr a1 a2 hwb a6 hl]
      exact vl
theorem SV_k (hi : ∀ t, inb t = 0 ∨ inb t = 1) : SV (Vk inb wb) Exk := by
  refine ⟨fun _ => Or.inl rfl, fun T T' T'' h1 h2 => ?_, fun T T' x s h hv => ?_, fun T x s h h7 h65 hwb => ?_, fun T _ _ _ => ⟨⟨Or.inl (by decide), fun _ => Or.inl rfl⟩, rfl⟩, fun T _ _ _ => ⟨⟨Or.inl (by decide), fun _ => Or.inr rfl⟩, rfl⟩⟩
  · rcases h1 with rfl | h1
    · exact h2
    · rcases h2 with rfl | h2
      · exact Or.inr h1
      · exact Or.inr (Gw_tr h1 h2)
  · rcases h with rfl | h
    · exact hv
    · exact Vk_gr h hv
  · obtain ⟨vc, vl⟩ := h h7 h65 hwb
    refine ⟨VC_x1 vc, ?_⟩
    have hW : ∀ t, cvT inb wb T t = 0 ∨ cvT inb wb T t = 1 := cvG_01 hi _
    exact (SV_W hW).2.2.2.1 T x s vl
theorem gv_ng (hd : GdT wb T) (hx : ∃ a, a < 2 * (wb + (T.1 73 66).toNatClampNeg) ∧ x = nI a) (hy : ∃ a, a < 2 * (wb + (T.1 73 66).toNatClampNeg) ∧ y = nI a) (h7 : (mNG T a x y h).2.1 73 7 = 0) : ∃ G, G ≤ 40000 ∧ (mNG T a x y h).2.1 73 66 = nI G ∧ GVl (mNG T a x y h).2 wb G := by
  obtain ⟨hM, h65, hwb, G, hG, e, hv⟩ := hd
  have cG : (T.1 73 66).toNatClampNeg = G := by rw [e]; exact nI_clamp (by omega)
  rw [cG] at hx hy
  unfold mNG at h7 ⊢
  by_cases z : mNGf T h
  · rw [if_pos z] at h7 ⊢
    show ∃ G, G ≤ 40000 ∧ (mT T 8 (mPla T)).1 73 66 = nI G ∧ GVl (mT T 8 (mPla T)) wb G
    have fr : ∀ c k, ¬ (c = 73 ∧ (k = 7 ∨ k = 8)) → (mT T 8 (mPla T)).1 c k = T.1 c k := fun c k q => by
      unfold mT
      by_cases z7 : T.1 73 7 = 0
      · rw [if_pos z7]
        unfold mF
        rw [zi_get, if_neg (by omega), zi_get, if_neg (by omega)]
      · rw [if_neg z7]
    exact ⟨G, hG, by rw [fr 73 66 (by omega)]; exact e, fun g hg => by rw [fr 113 g (by omega), fr 114 g (by omega)]; exact hv g hg⟩
  · rw [if_neg z] at h7 ⊢
    have hlt : G < 40000 := by
      by_cases q : G = 40000
      · exact absurd (Or.inl (by rw [e, q]; rfl)) z
      · omega
    show ∃ G, G ≤ 40000 ∧ (mNGs T a x y h).1 73 66 = nI G ∧ GVl (mNGs T a x y h) wb G
    unfold mNGs
    rw [e, nI_clamp (by omega), show nI G + 1 = nI (G + 1) from nI_add G 1]
    refine ⟨G + 1, by omega, by rw [zi_k (by decide), zi_k (by decide), zi_v], fun g hg => ?_⟩
    by_cases q : g = G
    · rw [q]
      refine ⟨?_, ?_⟩
      · obtain ⟨a1, h1, h2⟩ := hx
        exact ⟨a1, h1, by rw [zi_c (by decide), zi_c (by decide), zi_c (by decide), zi_c (by decide), zi_v]; exact h2⟩
      · obtain ⟨a1, h1, h2⟩ := hy
        exact ⟨a1, h1, by rw [zi_c (by decide), zi_c (by decide), zi_c (by decide), zi_v]; exact h2⟩
    · rw [zi_c (by decide), zi_c (by decide), zi_c (by decide), zi_c (by decide), zi_k q, zi_c (by decide), zi_c (by decide), zi_c (by decide), zi_c (by decide), zi_c (by decide), zi_k q, zi_c (by decide), zi_c (by decide), zi_c (by decide)]
      exact hv g (by omega)
end RUN
