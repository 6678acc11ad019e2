/-! the same cells, the same run: the reference; frames -/
/-- outside of the circuit and P nothing changes -/
def FK (P : Nat → Nat → Prop) (S S' : zS) : Prop := (∀ c j, ¬ (c = 24 ∧ 4 ≤ j ∧ j ≤ 7) → ¬ (25 ≤ c ∧ c ≤ 28) → ¬ P c j → S'.1 c j = S.1 c j) ∧ ∀ c j, S'.2 c j = S.2 c j
def FM (P : Nat → Nat → Prop) (T T' : zS) : Prop := (∀ c j, ¬ (c = 73 ∧ (j = 7 ∨ j = 8 ∨ j = 66 ∨ j = 67 ∨ j = 68)) → ¬ (111 ≤ c ∧ c ≤ 114) → ¬ P c j → T'.1 c j = T.1 c j) ∧ ∀ c j, T'.2 c j = T.2 c j
section FRR
variable {α β : Type} {l : Launch} {Gr : zG} {n w : Nat} {d : Nat} {S S' S'' T T' T'' A B : zS} {x y a h v c x' y' c' : Int32} {b : Bool} {p p' : CP α} {R R' : zS → α → Prop} {P P' P'' : Nat → Nat → Prop}
theorem FK_rfl : FK P S S := ⟨fun _ _ _ _ _ => rfl, fun _ _ => rfl⟩
theorem FK_tr (h1 : FK P S S') (h2 : FK P' S' S'') (q1 : ∀ c j, P c j → P'' c j) (q2 : ∀ c j, P' c j → P'' c j) : FK P'' S S'' := ⟨fun c j z1 z2 z3 => (h2.1 c j z1 z2 (fun z => z3 (q2 c j z))).trans (h1.1 c j z1 z2 (fun z => z3 (q1 c j z))), fun c j => (h2.2 c j).trans (h1.2 c j)⟩
theorem FK_mo (h1 : FK P S S') (q1 : ∀ c j, P c j → P' c j) : FK P' S S' := ⟨fun c j z1 z2 z3 => h1.1 c j z1 z2 (fun z => z3 (q1 c j z)), h1.2⟩
theorem FK_x (h : KX S S') : FK P S S' := ⟨fun c j z1 z2 _ => h.1 c j z1 z2, h.2⟩
theorem FK_zi {c0 j0 : Nat} (h : P c0 j0) : FK P S (zi S c0 j0 v) := ⟨fun c j _ _ z => by rw [zi_get, if_neg (fun q => z (by rw [q.1, q.2]; exact h))], fun _ _ => rfl⟩
theorem FM_rfl : FM P S S := ⟨fun _ _ _ _ _ => rfl, fun _ _ => rfl⟩
theorem FM_tr (h1 : FM P S S') (h2 : FM P' S' S'') (q1 : ∀ c j, P c j → P'' c j) (q2 : ∀ c j, P' c j → P'' c j) : FM P'' S S'' := ⟨fun c j z1 z2 z3 => (h2.1 c j z1 z2 (fun z => z3 (q2 c j z))).trans (h1.1 c j z1 z2 (fun z => z3 (q1 c j z))), fun c j => (h2.2 c j).trans (h1.2 c j)⟩
theorem FM_mo (h1 : FM P S S') (q1 : ∀ c j, P c j → P' c j) : FM P' S S' := ⟨fun c j z1 z2 z3 => h1.1 c j z1 z2 (fun z => z3 (q1 c j z)), h1.2⟩
theorem FM_x (h : KXm S S') : FM P S S' := ⟨fun c j z1 z2 _ => h.1 c j z1 z2, h.2⟩
theorem FM_zi {c0 j0 : Nat} (h : P c0 j0) : FM P S (zi S c0 j0 v) := ⟨fun c j _ _ z => by rw [zi_get, if_neg (fun q => z (by rw [q.1, q.2]; exact h))], fun _ _ => rfl⟩
theorem KEc_zi {c0 j0 : Nat} (h : KEc S A) (q : ¬ (24 ≤ c0 ∧ c0 ≤ 28)) : KEc S (zi A c0 j0 v) := ⟨fun k q1 q2 => by rw [zi_get, if_neg (by omega)]; exact h.1 k q1 q2, fun c k q1 q2 => by rw [zi_get, if_neg (by omega)]; exact h.2 c k q1 q2⟩
theorem MEc_zi {c0 j0 : Nat} (h : MEc S A) (q : ¬ (c0 = 73 ∨ (111 ≤ c0 ∧ c0 ≤ 114) ∨ c0 = 131)) : MEc S (zi A c0 j0 v) := ⟨fun k q1 => by rw [zi_get, if_neg (by omega)]; exact h.1 k q1, fun c k q1 => by rw [zi_get, if_neg (by omega)]; exact h.2 c k q1⟩
theorem GK_KE (h : KEc S A) (hG : GK S) : GK A := by
  obtain ⟨g, hg, e⟩ := hG
  exact ⟨g, hg, (h.1 4 (by omega) (by omega)).trans e⟩
theorem MEc_pla (h : MEc T T') : mPla T' = mPla T := by
  unfold mPla
  rw [h.1 94 (by omega), h.2 131 _ (by omega)]
theorem MEc_ng (h : MEc T T') : (mNG T' a x y c).1 = (mNG T a x y c).1 ∧ MEc (mNG T a x y c).2 (mNG T' a x y c).2 := by
  have e7 := h.1 7 (by omega)
  have e65 := h.1 65 (by omega)
  have e66 := h.1 66 (by omega)
  have e67 := h.1 67 (by omega)
  have e68 := h.1 68 (by omega)
  have ep := MEc_pla h
  unfold mNG
  have hf : mNGf T' c ↔ mNGf T c := by
    show (T'.1 73 66 = 40000 ∨ ¬ c ≤ 2000) ↔ (T.1 73 66 = 40000 ∨ ¬ c ≤ 2000)
    rw [e66]
  by_cases z : mNGf T c
  · rw [if_pos z, if_pos (hf.mpr z)]
    refine ⟨rfl, ?_⟩
    show MEc (mT T 8 (mPla T)) (mT T' 8 (mPla T'))
    rw [ep]
    unfold mT
    rw [e7]
    by_cases z2 : T.1 73 7 = 0
    · rw [if_pos z2, if_pos z2]
      unfold mF
      refine ⟨fun k q => ?_, fun c k q => ?_⟩
      · rw [zi_get, zi_get, zi_get, zi_get, h.1 k q]
      · rw [zi_get, zi_get, zi_get, zi_get, h.2 c k q]
    · rw [if_neg z2, if_neg z2]
      exact h
  · rw [if_neg z, if_neg (fun q => z (hf.mp q))]
    refine ⟨?_, fun k q => ?_, fun c' k q => ?_⟩
    · show 2 * ((T'.1 73 65 + (T'.1 73 66 + 1)) - 1) = _
      rw [e65, e66]
    · show (mNGs T' a x y c).1 73 k = (mNGs T a x y c).1 73 k
      unfold mNGs
      simp only [zi_get, e66, e67, e68, h.1 k q]
    · show (mNGs T' a x y c).1 c' k = (mNGs T a x y c).1 c' k
      unfold mNGs
      simp only [zi_get, e66, e67, e68, h.2 c' k q]
theorem MEc_lv (h : MEc T T') : mLv T' x = mLv T x := by
  unfold mLv
  rw [h.1 65 (by omega), h.2 112 _ (by omega)]
theorem MEc_op (h : MEc T T') : (mOp b T' x y).1 = (mOp b T x y).1 ∧ MEc (mOp b T x y).2 (mOp b T' x y).2 := by
  cases b
  · show (mXor T' x y).1 = (mXor T x y).1 ∧ MEc (mXor T x y).2 (mXor T' x y).2
    unfold mXor
    rw [MEc_lv h, MEc_lv h]
    split
    · exact ⟨rfl, h⟩
    · split
      · exact ⟨rfl, h⟩
      · split
        · exact ⟨rfl, h⟩
        · have := MEc_ng (x := x &&& (-2)) (y := y &&& (-2)) (a := 0) (c := mMx (mLv T x) (mLv T y)) h
          refine ⟨?_, this.2⟩
          show _ ^^^ _ = _ ^^^ _
          rw [this.1]
  · show (mAnd T' x y).1 = (mAnd T x y).1 ∧ MEc (mAnd T x y).2 (mAnd T' x y).2
    unfold mAnd
    rw [MEc_lv h, MEc_lv h]
    split
    · exact ⟨rfl, h⟩
    · split
      · exact ⟨rfl, h⟩
      · split
        · exact ⟨rfl, h⟩
        · exact MEc_ng h
theorem VL_ME (h : MEc T T') (hx : VL T x) : VL T' x := by
  rcases hx with q | q
  · exact Or.inl q
  · right
    rw [h.1 65 (by omega), h.1 66 (by omega)]
    exact q
theorem VC_ME (h : MEc T T') (hx : VC T x) : VC T' x := ⟨VL_ME h hx.1, hx.2⟩
theorem MW_ME (h : MEc T T') (hW : MW T) : MW T' := by
  obtain ⟨⟨⟨g, hg, h66⟩, q, hq, h94⟩, iw, hi, h65⟩ := hW
  exact ⟨⟨⟨g, hg, (h.1 66 (by omega)).trans h66⟩, q, hq, (h.1 94 (by omega)).trans h94⟩, iw, hi, (h.1 65 (by omega)).trans h65⟩
theorem cAn_ME (h : MEc T T') : ∀ k, cAn T' k = cAn T k
  | 0 => rfl
  | k + 1 => by
    show cAn T' k + T'.1 111 k = cAn T k + T.1 111 k
    rw [cAn_ME h k, h.2 111 k (by omega)]
theorem RL_E (hR : RL S T) (hS : KEc S S') (hT : MEc T T') : RL S' T' := by
  obtain ⟨hG, hW, hh⟩ := hR
  refine ⟨GK_KE hS hG, MW_ME hT hW, ?_⟩
  rw [hS.1 7 (by omega) (by omega), hT.1 7 (by omega), hT.1 8 (by omega), MEc_pla hT]
  refine hh.imp (fun q => ⟨q.1, q.2.1, ?_⟩) id
  obtain ⟨g, iw, hg, hi, h4, h66, h8, h65, h5, h67, h6, ⟨Dm, hDm, h68⟩, hr⟩ := q.2.2
  refine ⟨g, iw, hg, hi, (hS.1 4 (by omega) (by omega)).trans h4, (hT.1 66 (by omega)).trans h66, (hS.1 8 (by omega) (by omega)).trans h8, (hT.1 65 (by omega)).trans h65, ?_, ?_, ?_, ⟨Dm, hDm, (hT.1 68 (by omega)).trans h68⟩, fun k hk => ⟨?_, WG1_E (hr k hk).2 (fun c q1 q2 => hT.2 c k (by omega)) (hT.1 68 (by omega))⟩⟩
  · rw [hS.1 5 (by omega) (by omega), hT.1 67 (by omega)]; exact h5
  · rw [hT.1 67 (by omega), cAn_ME hT]; exact h67
  · rw [hS.1 6 (by omega) (by omega), hT.1 68 (by omega)]; exact h6
  · rw [hS.2 25 k (by omega) (by omega), hS.2 26 k (by omega) (by omega), hS.2 27 k (by omega) (by omega), hS.2 28 k (by omega) (by omega), hT.2 113 k (by omega), hT.2 114 k (by omega), hT.2 112 k (by omega), hT.2 111 k (by omega), cAn_ME hT]
    exact (hr k hk).1
/-- one step in a store A whose circuit is S's -/
theorem w_xorK (hg : ip_gk (lg_tbl, vwCl, Gr)) (hK : KEc S A) (hG : GK S) : zMi l Gr (zc n w) 168 M_Circuit_xor (d + 2) [.ref 56, .int x, .int y] A (fun v A' => v = (kOp false S x y).1 ∧ KEc (kOp false S x y).2 A' ∧ KX A A') := zMi_imp (w_xor hg (GK_KE hK hG)) (fun v A' h => by
  have e := KEc_op (b := false) (x := x) (y := y) hK
  have q := k_op (b := false) (x := x) (y := y) (GK_KE hK hG)
  rw [h.2]
  exact ⟨h.1.trans e.1, e.2, q.2.2⟩)
theorem w_andK (hg : ip_gk (lg_tbl, vwCl, Gr)) (hK : KEc S A) (hG : GK S) : zMi l Gr (zc n w) 168 M_Circuit_and (d + 2) [.ref 56, .int x, .int y] A (fun v A' => v = (kOp true S x y).1 ∧ KEc (kOp true S x y).2 A' ∧ KX A A') := zMi_imp (w_and hg (GK_KE hK hG)) (fun v A' h => by
  have e := KEc_op (b := true) (x := x) (y := y) hK
  have q := k_op (b := true) (x := x) (y := y) (GK_KE hK hG)
  rw [h.2]
  exact ⟨h.1.trans e.1, e.2, q.2.2⟩)
theorem wm_xorK (hg : ip_gk (lg_tbl, vwCl, Gr)) (hK : MEc T B) (hW : MW T) (hx : VC T x) (hy : VC T y) : zMi l Gr (zc n w) 168 M_Mo_xor (d + 2) [.ref 105, .int x, .int y] B (fun v B' => v = (mOp false T x y).1 ∧ MEc (mOp false T x y).2 B' ∧ KXm B B') := zMi_imp (wm_xor hg (MW_ME hK hW).1 (VL_ME hK hx.1) (VL_ME hK hy.1)) (fun v B' h => by
  have e := MEc_op (b := false) (x := x) (y := y) hK
  have q := m_op (b := false) (MW_ME hK hW) (VC_ME hK hx) (VC_ME hK hy)
  rw [h.2]
  exact ⟨h.1.trans e.1, e.2, q.1.2.2.2.1⟩)
theorem wm_andK (hg : ip_gk (lg_tbl, vwCl, Gr)) (hK : MEc T B) (hW : MW T) (hx : VC T x) (hy : VC T y) : zMi l Gr (zc n w) 168 M_Mo_and (d + 2) [.ref 105, .int x, .int y] B (fun v B' => v = (mOp true T x y).1 ∧ MEc (mOp true T x y).2 B' ∧ KXm B B') := zMi_imp (wm_and hg (MW_ME hK hW).1 (VL_ME hK hx.1) (VL_ME hK hy.1)) (fun v B' h => by
  have e := MEc_op (b := true) (x := x) (y := y) hK
  have q := m_op (b := true) (MW_ME hK hW) (VC_ME hK hx) (VC_ME hK hy)
  rw [h.2]
  exact ⟨h.1.trans e.1, e.2, q.1.2.2.2.1⟩)
/-- literals stay -/
def VM (T T' : zS) : Prop := ∀ x, VC T x → VC T' x
theorem VM_m (h : MOK T T') : VM T T' := fun _ q => VC_m h q
theorem VM_tr (h1 : VM T T') (h2 : VM T' T'') : VM T T'' := fun x q => h2 x (h1 x q)
theorem wf_keep (hp : mWF R p T) : mWF (fun T' a => VM T T' ∧ R T' a) p T := hp (fun p T => mWF (fun T' a => VM T T' ∧ R T' a) p T) (fun _ _ h => mWF_ret ⟨fun _ q => q, h⟩) (fun _ _ _ _ _ hB hx hy ih => mWF_op hB hx hy (fun T' v m hv => mWF_imp (fun _ _ h => ⟨VM_tr (VM_m m) h.1, h.2⟩) (ih T' v m hv)))
theorem mWF_seq {q : α → CP β} {R' : zS → β → Prop} (hq : ∀ a, BU (q a)) (hp : mWF R p T) (k : ∀ T' a, VM T T' → R T' a → mWF R' (q a) T') : mWF R' (cBind p q) T := mWF_bind hq (mWF_imp (fun T' a h => k T' a h.1 h.2) (wf_keep hp))
end FRR
