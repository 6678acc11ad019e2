/-! the run itself -/
section RUQ
variable {α : Type} {T T' : zS} {inb : Nat → Nat} {wb G N : Nat} {x y a h : Int32} {b s t : Bool} {p : CP α} {R : zS → α → Prop}
theorem ev_lt (hx : ∃ a, a < 2 * N ∧ x = nI a) (hN : N < 2 ^ 29) : ∃ a, a < 2 * N ∧ x &&& (-2) = nI a := by
  obtain ⟨a, ha, rfl⟩ := hx
  have nx : ¬ nI a < 0 := nI_pos (by omega)
  have nb : ¬ (nI a &&& (-2)) < 0 := by
    rw [and_m2]
    rcases and1_01 (nI a) with e | e
    · rw [e, show nI a ^^^ 0 = nI a from Int32.xor_zero]
      exact nx
    · rw [e]
      exact x1_pos nx
  obtain ⟨c, hc, e⟩ := nI_of nb
  have e2 := shr_x (nI a) (nI a)
  rw [← and_m2, e, shr_n hc, shr_n (by omega)] at e2
  have := (nI_eq (by omega) (by omega)).mp e2
  exact ⟨c, by omega, e⟩
theorem gd_op (hd : GdT wb T) (hx : VC T x) (hy : VC T y) (h7 : (mOp b T x y).2.1 73 7 = 0) : GdT wb (mOp b T x y).2 := by
  have hd' := hd
  obtain ⟨hM, h65, hwb, G, hG, e, hv⟩ := hd'
  have cG : (T.1 73 66).toNatClampNeg = G := by rw [e]; exact nI_clamp (by omega)
  have hn : Gn T := ⟨G, hG, e⟩
  have gw := gw_op (b := b) (x := x) (y := y) hn
  obtain ⟨g1, g2, -, -, -, -, w65, -⟩ := gw
  refine ⟨MOK_W (m_op (b := b) hM hx hy).1, w65.trans h65, hwb, ?_⟩
  have same : ∃ G, G ≤ 40000 ∧ T.1 73 66 = nI G ∧ GVl T wb G := ⟨G, hG, e, hv⟩
  have bd : ∀ {z : Int32}, ¬ ¬ 0 ≤ z → VC T z → ∃ a, a < 2 * (wb + (T.1 73 66).toNatClampNeg) ∧ z = nI a := fun {z} q1 q2 => by
    obtain ⟨a, ha, rfl⟩ := nI_of (Int32.not_lt.mpr (Decidable.not_not.mp q1))
    rw [cG]
    exact ⟨a, vc_lt hG hwb h65 e ha q2, rfl⟩
  cases b with
  | false =>
    show ∃ G, G ≤ 40000 ∧ (mXor T x y).2.1 73 66 = nI G ∧ GVl (mXor T x y).2 wb G
    have h7' : (mXor T x y).2.1 73 7 = 0 := h7
    unfold mXor at h7' ⊢
    by_cases z1 : ¬ 0 ≤ x
    · rw [if_pos z1]
      exact same
    · rw [if_neg z1] at h7' ⊢
      by_cases z2 : ¬ 0 ≤ y
      · rw [if_pos z2]
        exact same
      · rw [if_neg z2] at h7' ⊢
        by_cases z3 : (x >>> (1 &&& 31)) = (y >>> (1 &&& 31))
        · rw [if_pos z3]
          exact same
        · rw [if_neg z3] at h7' ⊢
          exact gv_ng hd (ev_lt (bd z1 hx) (by rw [cG]; omega)) (ev_lt (bd z2 hy) (by rw [cG]; omega)) h7'
  | true =>
    show ∃ G, G ≤ 40000 ∧ (mAnd T x y).2.1 73 66 = nI G ∧ GVl (mAnd T x y).2 wb G
    have h7' : (mAnd T x y).2.1 73 7 = 0 := h7
    unfold mAnd at h7' ⊢
    by_cases z1 : ¬ 0 ≤ x
    · rw [if_pos z1]
      exact same
    · rw [if_neg z1] at h7' ⊢
      by_cases z2 : ¬ 0 ≤ y
      · rw [if_pos z2]
        exact same
      · rw [if_neg z2] at h7' ⊢
        by_cases z3 : (x >>> (1 &&& 31)) = (y >>> (1 &&& 31))
        · rw [if_pos z3]
          exact same
        · rw [if_neg z3] at h7' ⊢
          exact gv_ng hd (bd z1 hx) (bd z2 hy) h7'
theorem vk_op (hi : ∀ t, inb t = 0 ∨ inb t = 1) (hd : GdT wb T) (h70 : T.1 73 7 = 0) (hx : Vk inb wb T x s) (hy : Vk inb wb T y t) : Vk inb wb (mOp b T x y).2 (mOp b T x y).1 (bop b s t) := fun h7 h65' hwb' => by
  have hd' := hd
  obtain ⟨hM, h65, hwb, G, hG, e, hv⟩ := hd'
  obtain ⟨vx, lx⟩ := hx h70 h65 hwb
  obtain ⟨vy, ly⟩ := hy h70 h65 hwb
  have hn : Gn T := ⟨G, hG, e⟩
  have gw := gw_op (b := b) (x := x) (y := y) hn
  have gd := gd_op (b := b) hd vx vy h7
  obtain ⟨hM', q65, qwb, G', hG', e', hv'⟩ := gd
  have c' : ((mOp b T x y).2.1 73 66).toNatClampNeg = G' := by rw [e']; exact nI_clamp (by omega)
  have gz : gtW (mOp b T x y).2 (cvT inb wb (mOp b T x y).2) := by
    unfold cvT
    rw [c']
    exact cvG_gt hi hwb hG' hv' h7 q65 e'
  obtain ⟨-, lx'⟩ := Vk_gr gw hx h7 h65' hwb'
  obtain ⟨-, ly'⟩ := Vk_gr gw hy h7 h65' hwb'
  have r := mopW (b := b) gz hn ⟨vx.2, lx'⟩ ⟨vy.2, ly'⟩ (Gw_rfl (Gw_n gw))
  exact ⟨(m_op (b := b) hM vx vy).2.1, r.2⟩
/-- what p reckons holds of its answer, unless a FAULT was told -/
theorem mk_run (hi : ∀ t, inb t = 0 ∨ inb t = 1) (hc : cWF (Vk inb wb) Exk R p T) (h70 : T.1 73 7 = 0) (hd : GdT wb T) (h7 : (p.2 T).2.1 73 7 = 0) : GdT wb (p.2 T).2 ∧ Exk T (p.2 T).2 ∧ R (p.2 T).2 (p.2 T).1 := by
  have key := hc (fun p T => (¬ T.1 73 7 = 0 → Gn T → ¬ (p.2 T).2.1 73 7 = 0) ∧ (T.1 73 7 = 0 → GdT wb T → (p.2 T).2.1 73 7 = 0 → GdT wb (p.2 T).2 ∧ Exk T (p.2 T).2 ∧ R (p.2 T).2 (p.2 T).1)) (fun a T hr => ⟨fun q _ => q, fun _ q _ => ⟨q, Or.inl rfl, hr⟩⟩) (fun b x y k T s t hx hy ih => ?_)
  · exact key.2 h70 hd h7
  · have end_eq : (cOp b x y k).2 T = (k (mOp b T x y).1).2 (mOp b T x y).2 := rfl
    rw [end_eq]
    refine ⟨fun q hn => ?_, fun q hd q7 => ?_⟩
    · have gw := gw_op (b := b) (x := x) (y := y) hn
      have f' : ¬ (mOp b T x y).2.1 73 7 = 0 := by
        obtain ⟨g, g', -, -, -, -, -, -, a7⟩ := gw
        exact a7 q
      exact (ih (mOp b T x y).2 (mOp b T x y).1 (Or.inr gw) (fun z => absurd z f')).1 f' (Gw_n gw)
    · have hn : Gn T := by
        obtain ⟨-, -, -, G, hG, e, -⟩ := hd
        exact ⟨G, hG, e⟩
      have gw := gw_op (b := b) (x := x) (y := y) hn
      have r := ih (mOp b T x y).2 (mOp b T x y).1 (Or.inr gw) (vk_op hi hd q hx hy)
      by_cases z : (mOp b T x y).2.1 73 7 = 0
      · obtain ⟨vx, -⟩ := hx q hd.2.1 hd.2.2.1
        obtain ⟨vy, -⟩ := hy q hd.2.1 hd.2.2.1
        obtain ⟨r1, r2, r3⟩ := r.2 z (gd_op hd vx vy z) q7
        refine ⟨r1, ?_, r3⟩
        rcases r2 with e | e
        · rw [e]
          exact Or.inr gw
        · exact Or.inr (Gw_tr gw e)
      · exact absurd q7 (r.1 z (Gw_n gw))
end RUQ
