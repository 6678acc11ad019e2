/-! programs of XORs and ANDs, run on both circuits -/
abbrev CP (α : Type) := (zS → α × zS) × (zS → α × zS)
def kOp (b : Bool) (S : zS) (x y : Int32) : Int32 × zS := match b with
  | true => kAnd S x y
  | false => kXor S x y
def mOp (b : Bool) (T : zS) (x y : Int32) : Int32 × zS := match b with
  | true => mAnd T x y
  | false => mXor T x y
def cRet {α : Type} (a : α) : CP α := (fun S => (a, S), fun T => (a, T))
def cOp {α : Type} (b : Bool) (x y : Int32) (k : Int32 → CP α) : CP α := (fun S => (k (kOp b S x y).1).1 (kOp b S x y).2, fun T => (k (mOp b T x y).1).2 (mOp b T x y).2)
def cBind {α β : Type} (p : CP α) (q : α → CP β) : CP β := (fun S => (q (p.1 S).1).1 (p.1 S).2, fun T => (q (p.2 T).1).2 (p.2 T).2)
/-- made of XORs and ANDs -/
def BU {α : Type} (p : CP α) : Prop := ∀ P : CP α → Prop, (∀ a, P (cRet a)) → (∀ b x y k, (∀ v, P (k v)) → P (cOp b x y k)) → P p
/-- a literal that there is; a CONSTANT is -1 or -2 -/
def VC (T : zS) (x : Int32) : Prop := VL T x ∧ (¬ 0 ≤ x → x = -1 ∨ x = -2)
/-- all the literals that the program meets are there, and R holds of what it answers -/
def mWF {α : Type} (R : zS → α → Prop) (p : CP α) (T : zS) : Prop := ∀ P : CP α → zS → Prop, (∀ a T, R T a → P (cRet a) T) → (∀ b x y k T, (∀ v, BU (k v)) → VC T x → VC T y → (∀ T' v, MOK T T' → VC T' v → P (k v) T') → P (cOp b x y k) T) → P p T
/-- the circuits' cells are the same -/
def KEc (S S' : zS) : Prop := (∀ k, 4 ≤ k → k ≤ 8 → S'.1 24 k = S.1 24 k) ∧ ∀ c k, 25 ≤ c → c ≤ 28 → S'.1 c k = S.1 c k
def MEc (T T' : zS) : Prop := (∀ k, k = 7 ∨ k = 8 ∨ (65 ≤ k ∧ k ≤ 68) ∨ k = 94 → T'.1 73 k = T.1 73 k) ∧ ∀ c k, (111 ≤ c ∧ c ≤ 114) ∨ c = 131 → T'.1 c k = T.1 c k
section CPP
variable {α β : Type} {S S' S'' T T' T'' : zS} {x y a h v c x' y' c' : Int32} {b : Bool} {p p' : CP α} {R R' : zS → α → Prop}
theorem cBind_ret {a : α} {q : α → CP β} : cBind (cRet a) q = q a := rfl
theorem cBind_op {k : Int32 → CP α} {q : α → CP β} : cBind (cOp b x y k) q = cOp b x y (fun v => cBind (k v) q) := rfl
theorem BU_ret {a : α} : BU (cRet a) := fun _ h _ => h a
theorem BU_op {k : Int32 → CP α} (h : ∀ v, BU (k v)) : BU (cOp b x y k) := fun P h1 h2 => h2 b x y k (fun v => h v P h1 h2)
theorem BU_bind {q : α → CP β} (hp : BU p) (hq : ∀ a, BU (q a)) : BU (cBind p q) := hp (fun p => BU (cBind p q)) (fun a => hq a) (fun _ _ _ _ h => BU_op h)
theorem mWF_ret {a : α} (h : R T a) : mWF R (cRet a) T := fun _ h1 _ => h1 a T h
theorem mWF_op {k : Int32 → CP α} (hB : ∀ v, BU (k v)) (hx : VC T x) (hy : VC T y) (h : ∀ T' v, MOK T T' → VC T' v → mWF R (k v) T') : mWF R (cOp b x y k) T := fun P h1 h2 => h2 b x y k T hB hx hy (fun T' v q1 q2 => h T' v q1 q2 P h1 h2)
theorem k_op (hG : GK S) : COKx S (kOp b S x y).2 := by
  cases b
  · exact k_xor hG
  · exact k_and hG
theorem k_run (hp : BU p) (hG : GK S) : COKx S (p.1 S).2 := hp (fun p => ∀ S, GK S → COKx S (p.1 S).2) (fun _ _ hG => COKx_rfl hG) (fun b x y _ ih S hG => COKx_tr (k_op hG) (ih (kOp b S x y).1 _ (k_op hG).1)) S hG
theorem VC_m (h : MOK T T') (hx : VC T x) : VC T' x := ⟨h.2.2.1 x hx.1, hx.2⟩
theorem VC_c1 : VC T (-1) := ⟨Or.inl (by decide), fun _ => Or.inl rfl⟩
theorem VC_c2 : VC T (-2) := ⟨Or.inl (by decide), fun _ => Or.inr rfl⟩
theorem VC_x (h : VC T x) : VC T (x ^^^ (y &&& 1)) := by
  refine ⟨VL_x h.1, fun q => ?_⟩
  have := h.2 (fun z => q ((sgn_x x y).mpr z))
  rcases and1 y with e | e <;> rw [e] <;> rcases this with e2 | e2 <;> rw [e2] <;> decide
theorem VC_f (h : VC T x) : VC T (x ^^^ 1) := by
  have := VC_x (y := 1) h
  rw [show (1 : Int32) &&& 1 = 1 by decide] at this
  exact this
theorem ng_c (hW : MW T) : ¬ 0 ≤ (mNG T a x y h).1 → (mNG T a x y h).1 = -1 ∨ (mNG T a x y h).1 = -2 := by
  obtain ⟨⟨⟨g, hg, h66⟩, q, hq, h94⟩, iw, hi, h65⟩ := hW
  unfold mNG
  split
  · exact fun _ => Or.inr rfl
  · intro z
    refine absurd ?_ z
    show 0 ≤ 2 * ((T.1 73 65 + (T.1 73 66 + 1)) - 1)
    rw [h65, h66, ng_v hi hg]
    exact nI_le (a := 0) (by omega) (by omega)
theorem m_op (hW : MW T) (hx : VC T x) (hy : VC T y) : MOK T (mOp b T x y).2 ∧ VC (mOp b T x y).2 (mOp b T x y).1 ∧ mPla (mOp b T x y).2 = mPla T := by
  cases b
  · have h := m_xor hW hx.1 hy.1
    refine ⟨h.1, ⟨h.2.1, ?_⟩, h.2.2⟩
    show ¬ 0 ≤ (mXor T x y).1 → (mXor T x y).1 = -1 ∨ (mXor T x y).1 = -2
    unfold mXor
    split
    · exact (VC_x hy).2
    · split
      · exact (VC_x hx).2
      · split
        · intro _
          show (-2) + ((x ^^^ y) &&& 1) = -1 ∨ (-2) + ((x ^^^ y) &&& 1) = -2
          rcases and1 (x ^^^ y) with e | e <;> rw [e] <;> decide
        · have n := ng_c (a := 0) (x := x &&& (-2)) (y := y &&& (-2)) (h := mMx (mLv T x) (mLv T y)) hW
          revert n
          generalize (mNG T 0 (x &&& (-2)) (y &&& (-2)) (mMx (mLv T x) (mLv T y))) = N
          intro n
          show ¬ 0 ≤ N.1 ^^^ ((x ^^^ y) &&& 1) → N.1 ^^^ ((x ^^^ y) &&& 1) = -1 ∨ N.1 ^^^ ((x ^^^ y) &&& 1) = -2
          intro q
          have n := n (fun z => q ((sgn_x _ _).mpr z))
          rcases and1 (x ^^^ y) with e | e <;> rw [e] <;> rcases n with e2 | e2 <;> rw [e2] <;> decide
  · have h := m_and hW hx.1 hy.1
    refine ⟨h.1, ⟨h.2.1, ?_⟩, h.2.2⟩
    show ¬ 0 ≤ (mAnd T x y).1 → (mAnd T x y).1 = -1 ∨ (mAnd T x y).1 = -2
    unfold mAnd
    split
    · intro q
      show (if x = -1 then y else -2) = -1 ∨ (if x = -1 then y else -2) = -2
      by_cases z : x = -1
      · rw [if_pos z]
        rw [if_pos z] at q
        exact hy.2 q
      · rw [if_neg z]; exact Or.inr rfl
    · split
      · intro q
        show (if y = -1 then x else -2) = -1 ∨ (if y = -1 then x else -2) = -2
        by_cases z : y = -1
        · rw [if_pos z]
          rw [if_pos z] at q
          exact hx.2 q
        · rw [if_neg z]; exact Or.inr rfl
      · split
        · intro q
          show (if x = y then x else -2) = -1 ∨ (if x = y then x else -2) = -2
          by_cases z : x = y
          · rw [if_pos z]
            rw [if_pos z] at q
            exact hx.2 q
          · rw [if_neg z]; exact Or.inr rfl
        · exact ng_c hW
theorem m_run (hW : MW T) (hp : mWF R p T) : MOK T (p.2 T).2 ∧ R (p.2 T).2 (p.2 T).1 ∧ mPla (p.2 T).2 = mPla T := hp (fun p T => MW T → MOK T (p.2 T).2 ∧ R (p.2 T).2 (p.2 T).1 ∧ mPla (p.2 T).2 = mPla T) (fun _ _ h hW => ⟨MOK_rfl hW, h, rfl⟩) (fun b x y k T _ hx hy ih hW => by
    have h := m_op (b := b) hW hx hy
    have h2 := ih _ _ h.1 h.2.1 (MOK_W h.1)
    exact ⟨MOK_tr h.1 h2.1, h2.2.1, h2.2.2.trans h.2.2⟩) hW
theorem mWF_imp (hR : ∀ T a, R T a → R' T a) (hp : mWF R p T) : mWF R' p T := hp (mWF R') (fun a T h => mWF_ret (hR T a h)) (fun _ _ _ _ _ hB hx hy ih => mWF_op hB hx hy ih)
theorem mWF_bind {q : α → CP β} {R' : zS → β → Prop} (hq : ∀ a, BU (q a)) (hp : mWF (fun T a => mWF R' (q a) T) p T) : mWF R' (cBind p q) T := hp (fun p T => mWF R' (cBind p q) T) (fun _ _ h => h) (fun _ _ _ _ _ hB hx hy ih => mWF_op (fun v => BU_bind (hB v) hq) hx hy ih)
/-- one step on both sides, alike before -/
theorem r_op (hC : CEQ S T) (h7 : S.1 24 7 = 0) (h73 : T.1 73 7 = 0) (hx : VC T x) (hy : VC T y) : (kOp b S x y).1 = (mOp b T x y).1 ∧ (((kOp b S x y).2.1 24 7 = 0 ∧ (mOp b T x y).2.1 73 7 = 0 ∧ CEQ (kOp b S x y).2 (mOp b T x y).2) ∨ (¬ (kOp b S x y).2.1 24 7 = 0 ∧ (mOp b T x y).2.1 73 7 = 8 ∧ (mOp b T x y).2.1 73 8 = mPla T)) := by
  cases b
  · show (kXor S x y).1 = (mXor T x y).1 ∧ (((kXor S x y).2.1 24 7 = 0 ∧ (mXor T x y).2.1 73 7 = 0 ∧ CEQ (kXor S x y).2 (mXor T x y).2) ∨ (¬ (kXor S x y).2.1 24 7 = 0 ∧ (mXor T x y).2.1 73 7 = 8 ∧ (mXor T x y).2.1 73 8 = mPla T))
    unfold kXor mXor
    by_cases z : ¬ 0 ≤ x
    · rw [if_pos z, if_pos z]
      exact ⟨rfl, Or.inl ⟨h7, h73, hC⟩⟩
    · rw [if_neg z, if_neg z]
      by_cases z2 : ¬ 0 ≤ y
      · rw [if_pos z2, if_pos z2]
        exact ⟨rfl, Or.inl ⟨h7, h73, hC⟩⟩
      · rw [if_neg z2, if_neg z2]
        by_cases z3 : (x >>> (1 &&& 31)) = (y >>> (1 &&& 31))
        · rw [if_pos z3, if_pos z3]
          refine ⟨?_, Or.inl ⟨h7, h73, hC⟩⟩
          show (-2) ^^^ ((x ^^^ y) &&& 1) = (-2) + ((x ^^^ y) &&& 1)
          rcases and1 (x ^^^ y) with e | e <;> rw [e] <;> decide
        · rw [if_neg z3, if_neg z3, lv_eq hC hx.1 (Decidable.not_not.mp z), lv_eq hC hy.1 (Decidable.not_not.mp z2), mx_eq]
          have := r_ng (x := x &&& (-2)) (y := y &&& (-2)) (h := mMx (mLv T x) (mLv T y)) hC h7 h73 (Or.inl rfl) (fun iw g q1 q2 q3 q4 => by rw [and_m2, and_m2]; exact ⟨VL_nat ((sgn_x x x).mpr (Decidable.not_not.mp z)) (VL_x hx.1) q1 q2 q3 q4, VL_nat ((sgn_x y y).mpr (Decidable.not_not.mp z2)) (VL_x hy.1) q1 q2 q3 q4⟩) (by
            obtain ⟨L1, p1, e1⟩ := lv_nat hC hx.1
            obtain ⟨L2, p2, e2⟩ := lv_nat hC hy.1
            rw [e1, e2, mMx_nat (by omega) (by omega)]
            exact ⟨max L1 L2, by omega, rfl, fun q => absurd q (by decide)⟩)
          refine ⟨?_, this.2⟩
          show _ ^^^ _ = _ ^^^ _
          rw [this.1]
  · show (kAnd S x y).1 = (mAnd T x y).1 ∧ (((kAnd S x y).2.1 24 7 = 0 ∧ (mAnd T x y).2.1 73 7 = 0 ∧ CEQ (kAnd S x y).2 (mAnd T x y).2) ∨ (¬ (kAnd S x y).2.1 24 7 = 0 ∧ (mAnd T x y).2.1 73 7 = 8 ∧ (mAnd T x y).2.1 73 8 = mPla T))
    unfold kAnd mAnd
    by_cases z : ¬ 0 ≤ x
    · rw [if_pos z, if_pos z]
      exact ⟨rfl, Or.inl ⟨h7, h73, hC⟩⟩
    · rw [if_neg z, if_neg z]
      by_cases z2 : ¬ 0 ≤ y
      · rw [if_pos z2, if_pos z2]
        exact ⟨rfl, Or.inl ⟨h7, h73, hC⟩⟩
      · rw [if_neg z2, if_neg z2]
        by_cases z3 : (x >>> (1 &&& 31)) = (y >>> (1 &&& 31))
        · rw [if_pos z3, if_pos z3]
          exact ⟨rfl, Or.inl ⟨h7, h73, hC⟩⟩
        · rw [if_neg z3, if_neg z3, lv_eq hC hx.1 (Decidable.not_not.mp z), lv_eq hC hy.1 (Decidable.not_not.mp z2), mx_eq]
          exact r_ng hC h7 h73 (Or.inr rfl) (fun iw g q1 q2 q3 q4 => ⟨VL_nat (Decidable.not_not.mp z) hx.1 q1 q2 q3 q4, VL_nat (Decidable.not_not.mp z2) hy.1 q1 q2 q3 q4⟩) (by
            obtain ⟨L1, p1, e1⟩ := lv_nat hC hx.1
            obtain ⟨L2, p2, e2⟩ := lv_nat hC hy.1
            rw [e1, e2, mMx_nat (by omega) (by omega)]
            exact ⟨1 + max L1 L2, by omega, nI_add 1 _, fun _ => by omega⟩)
theorem RL_dead (hR : RL S T) (h7 : ¬ S.1 24 7 = 0) (hS : COKx S S') (hT : MOK T T') (hp : mPla T' = mPla T) : RL S' T' := by
  obtain ⟨-, hW, ⟨q, -, -⟩ | ⟨-, h73, h78⟩⟩ := hR
  · exact absurd q h7
  · have := hT.2.2.2.2 (by rw [h73]; decide)
    exact ⟨hS.1, MOK_W hT, Or.inr ⟨hS.2.1 h7, this.1.trans h73, by rw [this.2, hp]; exact h78⟩⟩
/-- one program on both sides -/
theorem r_run (hR : RL S T) (h7 : S.1 24 7 = 0) (hp : mWF R p T) : RL (p.1 S).2 (p.2 T).2 ∧ ((p.1 S).2.1 24 7 = 0 → (p.1 S).1 = (p.2 T).1) := by
  refine (hp (fun p T => mWF R p T ∧ ∀ S, RL S T → S.1 24 7 = 0 → RL (p.1 S).2 (p.2 T).2 ∧ ((p.1 S).2.1 24 7 = 0 → (p.1 S).1 = (p.2 T).1)) (fun _ _ h => ⟨mWF_ret h, fun _ hR _ => ⟨hR, fun _ => rfl⟩⟩) (fun b x y k T hB hx hy ih => ⟨mWF_op hB hx hy (fun T' v q1 q2 => (ih T' v q1 q2).1), fun S hR h7 => ?_⟩)).2 S hR h7
  obtain ⟨hG, hW, ⟨-, h73, hC⟩ | ⟨q, -, -⟩⟩ := hR
  · have h := r_op (b := b) hC h7 h73 hx hy
    have hk := k_op (b := b) (x := x) (y := y) hG
    have hm := m_op (b := b) hW hx hy
    have wf := ih _ _ hm.1 hm.2.1
    rcases h.2 with h2 | h2
    · have hR2 : RL (kOp b S x y).2 (mOp b T x y).2 := ⟨hk.1, MOK_W hm.1, Or.inl h2⟩
      have := wf.2 _ hR2 h2.1
      show RL ((k (kOp b S x y).1).1 (kOp b S x y).2).2 ((k (mOp b T x y).1).2 (mOp b T x y).2).2 ∧ (((k (kOp b S x y).1).1 (kOp b S x y).2).2.1 24 7 = 0 → ((k (kOp b S x y).1).1 (kOp b S x y).2).1 = ((k (mOp b T x y).1).2 (mOp b T x y).2).1)
      rw [h.1]
      exact this
    · have hR2 : RL (kOp b S x y).2 (mOp b T x y).2 := ⟨hk.1, MOK_W hm.1, Or.inr ⟨h2.1, h2.2.1, by rw [hm.2.2]; exact h2.2.2⟩⟩
      have k2 := k_run (hB (kOp b S x y).1) hk.1
      have m2 := m_run (MOK_W hm.1) wf.1
      exact ⟨RL_dead hR2 h2.1 k2 m2.1 m2.2.2, fun q => absurd q (k2.2.1 h2.1)⟩
  · exact absurd h7 q
/-- what both have after a program each, the same one as long as there is room -/
def RR (S T S' T' : zS) (r r' : α) (R : zS → α → Prop) : Prop := RL S' T' ∧ (S'.1 24 7 = 0 → r = r') ∧ R T' r' ∧ COKx S S' ∧ MOK T T' ∧ mPla T' = mPla T
theorem r_run2 (hR : RL S T) (hB : BU p) (hp : S.1 24 7 = 0 → p = p') (hw : mWF R p' T) : RR S T (p.1 S).2 (p'.2 T).2 (p.1 S).1 (p'.2 T).1 R := by
  have k2 := k_run hB hR.1
  have m2 := m_run hR.2.1 hw
  by_cases h7 : S.1 24 7 = 0
  · have e := hp h7
    subst e
    have h := r_run hR h7 hw
    exact ⟨h.1, h.2, m2.2.1, k2, m2.1, m2.2.2⟩
  · exact ⟨RL_dead hR h7 k2 m2.1 m2.2.2, fun q => absurd q (k2.2.1 h7), m2.2.1, k2, m2.1, m2.2.2⟩
/-- the same cells, the same run -/
theorem KEc_rfl : KEc S S := ⟨fun _ _ _ => rfl, fun _ _ _ _ => rfl⟩
theorem KEc_tr (h1 : KEc S S') (h2 : KEc S' S'') : KEc S S'' := ⟨fun k q1 q2 => (h2.1 k q1 q2).trans (h1.1 k q1 q2), fun c k q1 q2 => (h2.2 c k q1 q2).trans (h1.2 c k q1 q2)⟩
theorem KEc_sy (h1 : KEc S S') : KEc S' S := ⟨fun k q1 q2 => (h1.1 k q1 q2).symm, fun c k q1 q2 => (h1.2 c k q1 q2).symm⟩
theorem MEc_rfl : MEc T T := ⟨fun _ _ => rfl, fun _ _ _ => rfl⟩
theorem MEc_tr (h1 : MEc T T') (h2 : MEc T' T'') : MEc T T'' := ⟨fun k q => (h2.1 k q).trans (h1.1 k q), fun c k q => (h2.2 c k q).trans (h1.2 c k q)⟩
theorem MEc_sy (h1 : MEc T T') : MEc T' T := ⟨fun k q => (h1.1 k q).symm, fun c k q => (h1.2 c k q).symm⟩
theorem KEc_ng (h : KEc S S') : (kNG S' x y a c).1 = (kNG S x y a c).1 ∧ KEc (kNG S x y a c).2 (kNG S' x y a c).2 := by
  have e4 := h.1 4 (by omega) (by omega)
  have e5 := h.1 5 (by omega) (by omega)
  have e6 := h.1 6 (by omega) (by omega)
  have e7 := h.1 7 (by omega) (by omega)
  have e8 := h.1 8 (by omega) (by omega)
  unfold kNG
  have hf : kNGf S' c ↔ kNGf S c := by
    show (¬ S'.1 24 7 = 0 ∨ 40000 ≤ S'.1 24 4 ∨ ¬ c ≤ 2000) ↔ (¬ S.1 24 7 = 0 ∨ 40000 ≤ S.1 24 4 ∨ ¬ c ≤ 2000)
    rw [e7, e4]
  by_cases z : kNGf S c
  · rw [if_pos z, if_pos (hf.mpr z)]
    refine ⟨rfl, fun k q1 q2 => ?_, fun c k q1 q2 => ?_⟩
    · show (zi S' 24 7 1).1 24 k = (zi S 24 7 1).1 24 k
      rw [zi_get, zi_get, h.1 k q1 q2]
    · show (zi S' 24 7 1).1 c k = (zi S 24 7 1).1 c k
      rw [zi_get, zi_get, h.2 c k q1 q2]
  · rw [if_neg z, if_neg (fun q => z (hf.mp q))]
    refine ⟨?_, fun k q1 q2 => ?_, fun c' k q1 q2 => ?_⟩
    · show 2 * ((S'.1 24 8 + (S'.1 24 4 + 1)) - 1) = _
      rw [e8, e4]
    · show (kNGs S' x y a c).1 24 k = (kNGs S x y a c).1 24 k
      unfold kNGs
      simp only [zi_get, e4, e5, e6, h.1 k q1 q2]
    · show (kNGs S' x y a c).1 c' k = (kNGs S x y a c).1 c' k
      unfold kNGs
      simp only [zi_get, e4, e5, e6, h.2 c' k q1 q2]
theorem KEc_lv (h : KEc S S') : kLv S' x = kLv S x := by
  unfold kLv
  rw [h.1 4 (by omega) (by omega), h.1 8 (by omega) (by omega), h.2 27 _ (by omega) (by omega)]
theorem KEc_op (h : KEc S S') : (kOp b S' x y).1 = (kOp b S x y).1 ∧ KEc (kOp b S x y).2 (kOp b S' x y).2 := by
  cases b
  · show (kXor S' x y).1 = (kXor S x y).1 ∧ KEc (kXor S x y).2 (kXor S' x y).2
    unfold kXor
    rw [KEc_lv h, KEc_lv h]
    split
    · exact ⟨rfl, h⟩
    · split
      · exact ⟨rfl, h⟩
      · split
        · exact ⟨rfl, h⟩
        · have := KEc_ng (x := x &&& (-2)) (y := y &&& (-2)) (a := 0) (c := ip_max (kLv S x) (kLv S y)) h
          refine ⟨?_, this.2⟩
          show _ ^^^ _ = _ ^^^ _
          rw [this.1]
  · show (kAnd S' x y).1 = (kAnd S x y).1 ∧ KEc (kAnd S x y).2 (kAnd S' x y).2
    unfold kAnd
    rw [KEc_lv h, KEc_lv h]
    split
    · exact ⟨rfl, h⟩
    · split
      · exact ⟨rfl, h⟩
      · split
        · exact ⟨rfl, h⟩
        · exact KEc_ng h
theorem KEc_run (hp : BU p) (h : KEc S S') : (p.1 S').1 = (p.1 S).1 ∧ KEc (p.1 S).2 (p.1 S').2 := hp (fun p => ∀ S S', KEc S S' → (p.1 S').1 = (p.1 S).1 ∧ KEc (p.1 S).2 (p.1 S').2) (fun _ _ _ h => ⟨rfl, h⟩) (fun b x y k ih S S' h => by
    have h1 := KEc_op (b := b) (x := x) (y := y) h
    have h2 := ih (kOp b S x y).1 _ _ h1.2
    show ((k (kOp b S' x y).1).1 (kOp b S' x y).2).1 = ((k (kOp b S x y).1).1 (kOp b S x y).2).1 ∧ KEc ((k (kOp b S x y).1).1 (kOp b S x y).2).2 ((k (kOp b S' x y).1).1 (kOp b S' x y).2).2
    rw [h1.1]
    exact h2) S S' h
end CPP
