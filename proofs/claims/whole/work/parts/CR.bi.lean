/-! operators bit by bit: the class -/
def bitP (t : Nat) (x y : Int32) : CP Int32 := if t = 0 then cOp false x y cRet else if t = 1 then cOp true x y cRet else orP x y
def bitsP (t : Nat) (X Y : Nat → Int32) : Nat → Nat → CP (List Int32)
  | 0, _ => cRet []
  | k + 1, j => cBind (bitP t (X j) (Y j)) fun v => cBind (bitsP t X Y k (j + 1)) fun os => cRet (v :: os)
def bkT (x1 : Int32) : Nat := if x1 = 41 then 0 else if x1 = 42 ∨ x1 = 39 then 1 else 2
section BIT
variable {l : Launch} {Gr : zG} {n w : Nat} {d : Nat} {S A T B : zS} {x y x1 : Int32} {X Y : Nat → Int32} {Q : Option Value → zS → Prop} {a b m t : Nat}
theorem bkT_0 (h : x1 = 41) : bkT x1 = 0 := by
  unfold bkT
  rw [if_pos h]
theorem bkT_1 (h : ¬ x1 = 41) (h2 : x1 = 42 ∨ x1 = 39) : bkT x1 = 1 := by
  unfold bkT
  rw [if_neg h, if_pos h2]
theorem bkT_2 (h : ¬ x1 = 41) (h2 : ¬ (x1 = 42 ∨ x1 = 39)) : bkT x1 = 2 := by
  unfold bkT
  rw [if_neg h, if_neg h2]
theorem BU_bit : BU (bitP t x y) := by
  unfold bitP
  split
  · exact BU_op (fun _ => BU_ret)
  · split
    · exact BU_op (fun _ => BU_ret)
    · exact BU_or
theorem W_bit (hx : VC T x) (hy : VC T y) : mWF VC (bitP t x y) T := by
  unfold bitP
  split
  · exact mWF_op (fun _ => BU_ret) hx hy (fun _ _ _ h => mWF_ret h)
  · split
    · exact mWF_op (fun _ => BU_ret) hx hy (fun _ _ _ h => mWF_ret h)
    · exact W_or hx hy
theorem BU_bits : ∀ (k j : Nat), BU (bitsP t X Y k j)
  | 0, _ => BU_ret
  | k + 1, j => BU_bind BU_bit (fun _ => BU_bind (BU_bits k (j + 1)) (fun _ => BU_ret))
theorem W_bits : ∀ (k j : Nat) (T : zS), (∀ j, VC T (X j)) → (∀ j, VC T (Y j)) → mWF VLs (bitsP t X Y k j) T
  | 0, _, _, _, _ => mWF_ret VLs_nil
  | k + 1, j, T, hX, hY => mWF_seq (fun _ => BU_bind (BU_bits k (j + 1)) (fun _ => BU_ret)) (W_bit (hX j) (hY j)) (fun T1 v m1 hv => mWF_seq (fun _ => BU_ret) (W_bits k (j + 1) T1 (fun j => m1 _ (hX j)) (fun j => m1 _ (hY j))) (fun T2 os m2 h2 => mWF_ret (VLs_cons (m2 _ hv) h2)))
theorem kb_bits (hg : ip_gk (lg_tbl, vwCl, Gr)) (hw : w ≤ 32) (hm : m ≤ w) (hab : a + w ≤ b) (hb : b + w ≤ 9682 * w) : ∀ (k j : Nat) (S A : zS), j + k = m → KEc S A → GK S → (∀ i, j ≤ i → i < m → A.1 57 (a + i) = X i) → (∀ i, i < m → A.1 57 (b + i) = Y i) → (∀ A', KEc ((bitsP (bkT x1) X Y k j).1 S).2 A' → FK (fun c i => c = 57 ∧ a + j ≤ i ∧ i < a + m) A A' → (∀ i, i < k → A'.1 57 (a + j + i) = ((bitsP (bkT x1) X Y k j).1 S).1.getD i (-2)) → Q none A') → zW l Gr (zc n w) 168 M_Builder_buildBits (d + 4) 3 [some (.ref 77), some (.int x1), some (.int (nI a)), some (.int (nI b)), some (.int (nI m)), some (.int (nI j)), none, none] [] A Q
  | 0, j, S, A, h, hK, hG, hX, hY, hQ => b_Builder_buildBits_3 (fun _ => b_Builder_buildBits_122 (hQ A hK FK_rfl (fun i hi => absurd hi (by omega)))) (fun q => absurd (nI_le (a := m) (b := j) (by omega) (by omega)) q)
  | k + 1, j, S, A, h, hK, hG, hX, hY, hQ => by
    have eX : A.1 57 ((nI a + nI j).toNatClampNeg) = X j := by rw [nI_add, nI_clamp (by omega)]; exact hX j (by omega) (by omega)
    have eY : A.1 57 ((nI b + nI j).toNatClampNeg) = Y j := by rw [nI_add, nI_clamp (by omega)]; exact hY j (by omega)
    have inA : vp_in (nI a + nI j) (9682 * w) := by rw [nI_add]; exact vp_in_nI (by omega) (by omega)
    have nx : ∀ v A1, v = ((bitP (bkT x1) (X j) (Y j)).1 S).1 → KEc ((bitP (bkT x1) (X j) (Y j)).1 S).2 A1 → KX A A1 → zW l Gr (zc n w) 168 M_Builder_buildBits (d + 4) 116 [some (.ref 77), some (.int x1), some (.int (nI a)), some (.int (nI b)), some (.int (nI m)), some (.int (nI j)), none, none] [] (zi A1 57 ((nI a + nI j).toNatClampNeg) v) Q := fun v A1 ev K1 F1 => by
      subst ev
      refine b_Builder_buildBits_116 ?_
      rw [nI_add, nI_clamp (by omega), show nI j + Int32.ofInt 1 = nI (j + 1) from nI_add j 1]
      refine kb_bits hg hw hm hab hb k (j + 1) _ _ (by omega) (KEc_zi K1 (by omega)) (k_run BU_bit hG).1 (fun i q1 q2 => ?_) (fun i hi => ?_) (fun A' e1 e2 e3 => hQ A' e1 ?_ (fun i hi => ?_))
      · rw [zi_get, if_neg (by omega), F1.1 57 (a + i) (by omega) (by omega)]
        exact hX i (by omega) q2
      · rw [zi_get, if_neg (by omega), F1.1 57 (b + i) (by omega) (by omega)]
        exact hY i hi
      · exact FK_tr (FK_x (P := fun _ _ => False) F1) (FK_tr (FK_zi (P := fun c i => c = 57 ∧ i = a + j) ⟨rfl, rfl⟩) e2 (P'' := fun c i => c = 57 ∧ a + j ≤ i ∧ i < a + m) (by omega) (by omega)) (fun _ _ z => z.elim) (fun _ _ z => z)
      · cases i with
        | zero => exact (e2.1 57 (a + j + 0) (by omega) (by omega) (by omega)).trans zi_v
        | succ i => exact (congrArg (A'.1 57) (by omega)).trans (e3 i (by omega))
    have tand : x1 = 42 ∨ x1 = 39 → ¬ x1 = 41 → zW l Gr (zc n w) 168 M_Builder_buildBits (d + 4) 73 [some (.ref 77), some (.int x1), some (.int (nI a)), some (.int (nI b)), some (.int (nI m)), some (.int (nI j)), some (.int (X j)), some (.int (Y j))] [] A Q := fun z z0 => by
      refine b_Builder_buildBits_73 hg (w_andK (d := d + 1) hg hK hG) (fun v A1 h1 => b_Builder_buildBits_92 inA (nx v A1 ?_ ?_ h1.2.2))
      · rw [bkT_1 z0 z]
        exact h1.1
      · rw [bkT_1 z0 z]
        exact h1.2.1
    refine b_Builder_buildBits_3 (fun q => absurd q (nI_ge (a := j) (b := m) (by omega) (by omega))) (fun _ => b_Builder_buildBits_10 inA (by rw [nI_add]; exact vp_in_nI (by omega) (by omega)) (fun z => ?_) (fun z => ?_))
    · rw [eX, eY]
      refine b_Builder_buildBits_61 (fun z2 => tand (Or.inl z2) z) (fun z2 => b_Builder_buildBits_67 (fun z3 => ?_) (fun z3 => tand (Or.inr z3) z))
      refine b_Builder_buildBits_96 hg (w_orK hg hK hG) (fun v A1 h1 => b_Builder_buildBits_115 inA (nx v A1 ?_ ?_ h1.2.2))
      · rw [bkT_2 z (fun q => q.elim z2 z3)]
        exact h1.1
      · rw [bkT_2 z (fun q => q.elim z2 z3)]
        exact h1.2.1
    · rw [eX, eY]
      refine b_Builder_buildBits_38 hg (w_xorK (d := d + 1) hg hK hG) (fun v A1 h1 => b_Builder_buildBits_57 inA (nx v A1 ?_ ?_ h1.2.2))
      · rw [bkT_0 z]
        exact h1.1
      · rw [bkT_0 z]
        exact h1.2.1
end BIT
