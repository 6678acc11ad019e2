/-! the reference's circuit only grows; a program's answers have the values that it reckons -/
/-- T' has T's circuit, and more -/
def Gw (T T' : zS) : Prop := ∃ g g', g ≤ g' ∧ g' ≤ 40000 ∧ T.1 73 66 = nI g ∧ T'.1 73 66 = nI g' ∧ T'.1 73 65 = T.1 73 65 ∧ (∀ c k, 111 ≤ c → c ≤ 114 → k < g → T'.1 c k = T.1 c k) ∧ (¬ T.1 73 7 = 0 → ¬ T'.1 73 7 = 0)
def Gn (T : zS) : Prop := ∃ g, g ≤ 40000 ∧ T.1 73 66 = nI g
section GRW
variable {α : Type} {T T' T'' Z : zS} {x y a h : Int32} {b s t : Bool} {W : Nat → Nat} {p : CP α} {wb G : Nat}
theorem Gw_rfl (h : Gn T) : Gw T T := by
  obtain ⟨g, hg, e⟩ := h
  exact ⟨g, g, Nat.le_refl _, hg, e, e, rfl, fun _ _ _ _ _ => rfl, fun q => q⟩
theorem Gw_tr (h1 : Gw T T') (h2 : Gw T' T'') : Gw T T'' := by
  obtain ⟨g, g1, a1, a2, a3, a4, a5, a6, a7⟩ := h1
  obtain ⟨g2, g3, b1, b2, b3, b4, b5, b6, b7⟩ := h2
  have e : g1 = g2 := (nI_eq (by omega) (by omega)).mp (a4.symm.trans b3)
  subst e
  exact ⟨g, g3, by omega, b2, a3, b4, b5.trans a5, fun c k q1 q2 q3 => (b6 c k q1 q2 (by omega)).trans (a6 c k q1 q2 q3), fun q => b7 (a7 q)⟩
theorem Gw_n (h : Gw T T') : Gn T' := by
  obtain ⟨g, g1, a1, a2, a3, a4, -⟩ := h
  exact ⟨g1, a2, a4⟩
theorem gw_ng (hn : Gn T) : Gw T (mNG T a x y h).2 := by
  obtain ⟨g, hg, e⟩ := hn
  unfold mNG
  by_cases z : mNGf T h
  · rw [if_pos z]
    show Gw T (mT T 8 (mPla T))
    unfold mT
    by_cases z7 : T.1 73 7 = 0
    · rw [if_pos z7]
      unfold mF
      exact ⟨g, g, Nat.le_refl _, hg, e, by rw [zi_k (by decide), zi_k (by decide)]; exact e, by rw [zi_k (by decide), zi_k (by decide)], fun c k q1 q2 _ => by rw [zi_c (by omega), zi_c (by omega)], fun q => absurd z7 q⟩
    · rw [if_neg z7]
      exact Gw_rfl ⟨g, hg, e⟩
  · rw [if_neg z]
    have hlt : g < 40000 := by
      by_cases q : g = 40000
      · exact absurd (Or.inl (by rw [e, q]; rfl)) z
      · omega
    show Gw T (mNGs T a x y h)
    unfold mNGs
    rw [e, nI_clamp (by omega), show nI g + 1 = nI (g + 1) from nI_add g 1]
    refine ⟨g, g + 1, by omega, by omega, e, by rw [zi_k (by decide), zi_k (by decide), zi_v], by rw [zi_k (by decide), zi_k (by decide), zi_k (by decide), zi_c (by decide), zi_c (by decide), zi_c (by decide), zi_c (by decide)], fun c k q1 q2 q3 => ?_, fun q => ?_⟩
    · rw [zi_c (by omega), zi_c (by omega), zi_c (by omega), zi_get, if_neg (by omega), zi_get, if_neg (by omega), zi_get, if_neg (by omega), zi_get, if_neg (by omega)]
    · rw [zi_k (by decide), zi_k (by decide), zi_k (by decide), zi_c (by decide), zi_c (by decide), zi_c (by decide), zi_c (by decide)]
      exact q
theorem gw_op (hn : Gn T) : Gw T (mOp b T x y).2 := by
  cases b with
  | false =>
    show Gw T (mXor T x y).2
    unfold mXor
    by_cases z1 : ¬ 0 ≤ x
    · rw [if_pos z1]
      exact Gw_rfl hn
    · rw [if_neg z1]
      by_cases z2 : ¬ 0 ≤ y
      · rw [if_pos z2]
        exact Gw_rfl hn
      · rw [if_neg z2]
        by_cases z3 : (x >>> (1 &&& 31)) = (y >>> (1 &&& 31))
        · rw [if_pos z3]
          exact Gw_rfl hn
        · rw [if_neg z3]
          exact gw_ng hn
  | true =>
    show Gw T (mAnd T x y).2
    unfold mAnd
    by_cases z1 : ¬ 0 ≤ x
    · rw [if_pos z1]
      exact Gw_rfl hn
    · rw [if_neg z1]
      by_cases z2 : ¬ 0 ≤ y
      · rw [if_pos z2]
        exact Gw_rfl hn
      · rw [if_neg z2]
        by_cases z3 : (x >>> (1 &&& 31)) = (y >>> (1 &&& 31))
        · rw [if_pos z3]
          exact Gw_rfl hn
        · rw [if_neg z3]
          exact gw_ng hn
theorem gw_run (hp : BU p) : ∀ T, Gn T → Gw T (p.2 T).2 := hp (fun p => ∀ T, Gn T → Gw T (p.2 T).2) (fun _ T hn => Gw_rfl hn) (fun b x y k ih T hn => Gw_tr (gw_op hn) (ih _ _ (Gw_n (gw_op hn))))
/-- W is the values of Z's circuit -/
def gtW (Z : zS) (W : Nat → Nat) : Prop := (∀ t, W t = 0 ∨ W t = 1) ∧ Z.1 73 7 = 0 ∧ ∃ wb G, wb ≤ 8192 ∧ G ≤ 40000 ∧ Z.1 73 65 = nI wb ∧ Z.1 73 66 = nI G ∧ ∀ g, g < G → W (wb + g) = if Z.1 111 g = 1 then litV W (Z.1 113 g) * litV W (Z.1 114 g) else (litV W (Z.1 113 g) + litV W (Z.1 114 g)) % 2
/-- a new gate's value -/
theorem ngW_v (hZ : gtW Z W) (hn : Gn T) (hg : Gw (mNG T a x y h).2 Z) : CNl (mNG T a x y h).1 ∧ litV W (mNG T a x y h).1 = if a = 1 then litV W x * litV W y else (litV W x + litV W y) % 2 := by
  obtain ⟨hW, h7, wb, G, hwb, hG, e65, e66, hv⟩ := hZ
  obtain ⟨g, hgl, e⟩ := hn
  unfold mNG at hg ⊢
  by_cases z : mNGf T h
  · rw [if_pos z] at hg
    obtain ⟨g1, g2, -, -, -, -, -, -, q⟩ := hg
    refine absurd h7 (q ?_)
    show ¬ (mT T 8 (mPla T)).1 73 7 = 0
    unfold mT
    by_cases z7 : T.1 73 7 = 0
    · rw [if_pos z7]
      unfold mF
      first
      | (rw [zi_k (by decide), zi_v]; decide)
      | (rw [zi_v]; decide)
    · rw [if_neg z7]
      exact z7
  · rw [if_neg z] at hg ⊢
    have hlt : g < 40000 := by
      by_cases q : g = 40000
      · exact absurd (Or.inl (by rw [e, q]; rfl)) z
      · omega
    obtain ⟨g1, g2, q1, q2, q3, q4, q5, q6, -⟩ := hg
    have es : (mNGs T a x y h).1 73 66 = nI (g + 1) := by
      unfold mNGs
      rw [e, zi_k (by decide), zi_k (by decide), zi_v]
      exact nI_add g 1
    have eg1 : g1 = g + 1 := (nI_eq (by omega) (by omega)).mp (q3.symm.trans es)
    have eG : g2 = G := (nI_eq (by omega) (by omega)).mp (q4.symm.trans e66)
    have et : T.1 73 65 = nI wb := by
      have e5 : (mNGs T a x y h).1 73 65 = T.1 73 65 := by
        unfold mNGs
        rw [zi_k (by decide), zi_k (by decide), zi_k (by decide), zi_c (by decide), zi_c (by decide), zi_c (by decide), zi_c (by decide)]
      rw [← e5]
      exact q5.symm.trans e65
    have r : ∀ c v, c = 111 ∧ v = a ∨ c = 113 ∧ v = x ∨ c = 114 ∧ v = y → Z.1 c g = v := fun c v q => by
      rw [q6 c g (by omega) (by omega) (by omega)]
      unfold mNGs
      rw [e, nI_clamp (by omega)]
      rcases q with ⟨rfl, rfl⟩ | ⟨rfl, rfl⟩ | ⟨rfl, rfl⟩
      · rw [zi_c (by decide), zi_c (by decide), zi_c (by decide), zi_c (by decide), zi_c (by decide), zi_c (by decide), zi_v]
      · rw [zi_c (by decide), zi_c (by decide), zi_c (by decide), zi_c (by decide), zi_v]
      · rw [zi_c (by decide), zi_c (by decide), zi_c (by decide), zi_v]
    have el : (2 : Int32) * ((T.1 73 65 + (T.1 73 66 + 1)) - 1) = nI (2 * (wb + g)) := by
      rw [et, e, show nI g + 1 = nI (g + 1) from nI_add g 1, nI_add, show nI (wb + (g + 1)) - 1 = nI (wb + g) from nI_subb (wb + g) 1, nI_mul2]
    show CNl (2 * ((T.1 73 65 + (T.1 73 66 + 1)) - 1)) ∧ litV W (2 * ((T.1 73 65 + (T.1 73 66 + 1)) - 1)) = _
    rw [el]
    refine ⟨fun q => absurd (nI_pos' (by omega)) q, ?_⟩
    rw [litV_n (nI_pos (by omega)), shr_n (by omega), nI_clamp (by omega), show 2 * (wb + g) / 2 = wb + g by omega]
    have e0 : lbt (nI (2 * (wb + g))) = 0 := by
      unfold lbt
      rw [nI_odd, show 2 * (wb + g) % 2 = 0 by omega]
      rfl
    have hw := hv g (by omega)
    rw [r 111 a (Or.inl ⟨rfl, rfl⟩), r 113 x (Or.inr (Or.inl ⟨rfl, rfl⟩)), r 114 y (Or.inr (Or.inr ⟨rfl, rfl⟩))] at hw
    have := hW (wb + g)
    rw [e0, ← hw]
    omega
end GRW
section MOV
variable {α : Type} {T T' Z : zS} {x y : Int32} {b s t : Bool} {W : Nat → Nat} {p : CP α} {R : zS → α → Prop}
/-- a literal's value, and it is one -/
def VW (W : Nat → Nat) (_ : zS) (x : Int32) (s : Bool) : Prop := CNl x ∧ litV W x = s.toNat
theorem CN_x1 (h : CNl x) : CNl (x ^^^ 1) := fun z => by
  have z' : ¬ 0 ≤ x := by
    rw [Int32.not_le] at z ⊢
    exact x1_sg.mp z
  rcases h z' with e | e
  · exact Or.inr (by rw [e]; rfl)
  · exact Or.inl (by rw [e]; rfl)
theorem CN_xb (h : CNl x) : CNl (x ^^^ (y &&& 1)) := by
  rcases and1_01 y with e | e
  · rw [e, show x ^^^ 0 = x from Int32.xor_zero]
    exact h
  · rw [e]
    exact CN_x1 h
theorem SV_VW (hW : ∀ t, W t = 0 ∨ W t = 1) : SV (VW W) (fun _ _ => True) := by
  refine ⟨fun _ => trivial, fun _ _ _ _ _ => trivial, fun _ _ _ _ _ h => h, fun T x s h => ⟨CN_x1 h.1, (SV_W hW).2.2.2.1 T x s h.2⟩, fun _ => ⟨fun _ => Or.inl rfl, rfl⟩, fun _ => ⟨fun _ => Or.inr rfl, rfl⟩⟩
theorem bo_x (s t : Bool) : (bop false s t).toNat = (s.toNat + t.toNat) % 2 := by cases s <;> cases t <;> rfl
theorem bo_a (s t : Bool) : (bop true s t).toNat = s.toNat * t.toNat := by cases s <;> cases t <;> rfl
theorem lb_m1 (h : x = -1 ∨ x = -2) : lbt x = if x = -1 then 1 else 0 := by
  rcases h with rfl | rfl <;> rfl
theorem mopW (hZ : gtW Z W) (hn : Gn T) (hx : VW W T x s) (hy : VW W T y t) (hg : Gw (mOp b T x y).2 Z) : VW W (mOp b T x y).2 (mOp b T x y).1 (bop b s t) := by
  have hW := hZ.1
  obtain ⟨x1, x2⟩ := hx
  obtain ⟨y1, y2⟩ := hy
  cases b with
  | false =>
    show VW W _ (mXor T x y).1 (bop false s t)
    have hg' : Gw (mXor T x y).2 Z := hg
    unfold mXor at hg' ⊢
    by_cases z1 : ¬ 0 ≤ x
    · rw [if_pos z1]
      refine ⟨CN_xb y1, ?_⟩
      rw [litV_xb hW, bo_x, y2, ← x2, litV_c (Int32.not_le.mp z1)]
      omega
    · rw [if_neg z1] at hg' ⊢
      have p1 : ¬ x < 0 := Int32.not_lt.mpr (Decidable.not_not.mp z1)
      by_cases z2 : ¬ 0 ≤ y
      · rw [if_pos z2]
        refine ⟨CN_xb x1, ?_⟩
        rw [litV_xb hW, bo_x, x2, ← y2, litV_c (Int32.not_le.mp z2)]
      · rw [if_neg z2] at hg' ⊢
        have p2 : ¬ y < 0 := Int32.not_lt.mpr (Decidable.not_not.mp z2)
        rw [litV_n p1] at x2
        rw [litV_n p2] at y2
        have wx := hW (x >>> (1 &&& 31)).toNatClampNeg
        have wy := hW (y >>> (1 &&& 31)).toNatClampNeg
        have bx := lbt_01 x
        have bby := lbt_01 y
        by_cases z3 : (x >>> (1 &&& 31)) = (y >>> (1 &&& 31))
        · rw [if_pos z3]
          rw [← z3] at y2
          have e : (x ^^^ y) &&& 1 = nI ((lbt x + lbt y) % 2) := by rw [lbt_v, lbt_x]
          have q : (bop false s t).toNat = (lbt x + lbt y) % 2 := by
            rw [bo_x, ← x2, ← y2]
            omega
          show VW W _ ((-2) + ((x ^^^ y) &&& 1)) _
          rw [e]
          have h2 : (lbt x + lbt y) % 2 = 0 ∨ (lbt x + lbt y) % 2 = 1 := by omega
          rcases h2 with e2 | e2
          · rw [e2] at q ⊢
            exact ⟨fun _ => Or.inr rfl, q.symm⟩
          · rw [e2] at q ⊢
            exact ⟨fun _ => Or.inl rfl, q.symm⟩
        · rw [if_neg z3] at hg' ⊢
          obtain ⟨c1, c2⟩ := ngW_v hZ hn hg'
          refine ⟨CN_xb c1, ?_⟩
          show litV W (_ ^^^ ((x ^^^ y) &&& 1)) = _
          rw [litV_xb hW, c2, if_neg (by decide), and_m2, and_m2, litV_xb hW, litV_xb hW, litV_n p1, litV_n p2, lbt_x, bo_x, ← x2, ← y2]
          omega
  | true =>
    show VW W _ (mAnd T x y).1 (bop true s t)
    have hg' : Gw (mAnd T x y).2 Z := hg
    unfold mAnd at hg' ⊢
    by_cases z1 : ¬ 0 ≤ x
    · rw [if_pos z1]
      have bx := lb_m1 (x1 z1)
      rw [litV_c (Int32.not_le.mp z1), bx] at x2
      rw [VW, bo_a, ← x2]
      show CNl (if x = -1 then y else -2) ∧ litV W (if x = -1 then y else -2) = (if x = -1 then 1 else 0) * t.toNat
      by_cases q : x = -1
      · rw [if_pos q, if_pos q, Nat.one_mul]
        exact ⟨y1, y2⟩
      · rw [if_neg q, if_neg q, Nat.zero_mul]
        exact ⟨fun _ => Or.inr rfl, rfl⟩
    · rw [if_neg z1] at hg' ⊢
      have p1 : ¬ x < 0 := Int32.not_lt.mpr (Decidable.not_not.mp z1)
      by_cases z2 : ¬ 0 ≤ y
      · rw [if_pos z2]
        have bx := lb_m1 (y1 z2)
        rw [litV_c (Int32.not_le.mp z2), bx] at y2
        rw [VW, bo_a, ← y2]
        show CNl (if y = -1 then x else -2) ∧ litV W (if y = -1 then x else -2) = s.toNat * (if y = -1 then 1 else 0)
        by_cases q : y = -1
        · rw [if_pos q, if_pos q, Nat.mul_one]
          exact ⟨x1, x2⟩
        · rw [if_neg q, if_neg q, Nat.mul_zero]
          exact ⟨fun _ => Or.inr rfl, rfl⟩
      · rw [if_neg z2] at hg' ⊢
        have p2 : ¬ y < 0 := Int32.not_lt.mpr (Decidable.not_not.mp z2)
        by_cases z3 : (x >>> (1 &&& 31)) = (y >>> (1 &&& 31))
        · rw [if_pos z3]
          show VW W _ (if x = y then x else -2) _
          by_cases q : x = y
          · rw [if_pos q]
            rw [q] at x2 ⊢
            refine ⟨y1, ?_⟩
            have est : s.toNat = t.toNat := x2.symm.trans y2
            rw [y2, bo_a, est]
            cases t <;> rfl
          · rw [if_neg q]
            refine ⟨fun _ => Or.inr rfl, ?_⟩
            rw [litV_n p1] at x2
            rw [litV_n p2, ← z3] at y2
            have nb : ¬ lbt x = lbt y := fun eb => by
              obtain ⟨a, ha, rfl⟩ := nI_of p1
              obtain ⟨c, hc, rfl⟩ := nI_of p2
              rw [shr_n ha, shr_n hc] at z3
              have z4 := (nI_eq (by omega) (by omega)).mp z3
              have b1 := lbt_v (nI a)
              have b2 := lbt_v (nI c)
              rw [nI_odd] at b1 b2
              rw [eb] at b1
              have b3 := (nI_eq (by omega) (by omega)).mp (b1.trans b2.symm)
              exact q (by rw [show a = c by omega])
            have bx := lbt_01 x
            have bby := lbt_01 y
            have wx := hW (x >>> (1 &&& 31)).toNatClampNeg
            have hs : s.toNat = 0 ∨ t.toNat = 0 := by omega
            rw [bo_a]
            show 0 = _
            rcases hs with e | e <;> rw [e]
            · rw [Nat.zero_mul]
            · rw [Nat.mul_zero]
        · rw [if_neg z3] at hg' ⊢
          obtain ⟨c1, c2⟩ := ngW_v hZ hn hg'
          refine ⟨c1, ?_⟩
          rw [c2, if_pos rfl, x2, y2, bo_a]
end MOV
