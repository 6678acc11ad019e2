/-! equal, on both sides -/
def pairP (E : Nat → Int32) : Nat → Nat → CP (List Int32)
  | 0, _ => cRet []
  | 1, i => cRet [E i]
  | r + 2, i => cOp true (E i) (E (i + 1)) fun v => cBind (pairP E r (i + 2)) fun os => cRet (v :: os)
def allP : Nat → Nat → (Nat → Int32) → CP Int32
  | 0, _, E => cRet (E 0)
  | f + 1, m, E => if m ≤ 1 then cRet (E 0) else cBind (pairP E m 0) fun os => allP f ((m + 1) / 2) (fun j => os.getD j (-2))
def xnorP (X Y : Nat → Int32) : Nat → Nat → CP (List Int32)
  | 0, _ => cRet []
  | k + 1, i => cOp false (X i) (Y i) fun v => cBind (xnorP X Y k (i + 1)) fun os => cRet ((v ^^^ 1) :: os)
def eqP (X Y : Nat → Int32) (m : Nat) : CP Int32 := cBind (xnorP X Y m 0) fun os => allP m m (fun j => os.getD j (-2))
theorem nI_odd' (n : Nat) : Int32.ofNat n &&& 1 = Int32.ofNat (n % 2) := by
  apply Int32.toBitVec_inj.mp
  apply BitVec.eq_of_toNat_eq
  rw [Int32.toBitVec_and]
  simp
  have : n % 4294967296 &&& 1 = (n % 4294967296) % 2 := Nat.and_one_is_mod _
  omega
theorem nI_odd (n : Nat) : nI n &&& 1 = nI (n % 2) := nI_odd' n
theorem nI_half' {n : Nat} (h : n < 2 ^ 31) : Int32.ofNat n / 2 = Int32.ofNat (n / 2) := by
  apply Int32.toInt_inj.mp
  rw [Int32.toInt_div, Int32.toInt_ofNat_of_lt (by omega), Int32.toInt_ofNat_of_lt (by omega), show (2 : Int32).toInt = 2 from rfl]
  rw [Int.tdiv_eq_ediv_of_nonneg (by omega)]
  rw [Int.bmod_def]
  split <;> omega
theorem nI_half {n : Nat} (h : n < 2 ^ 31) : nI n / 2 = nI (n / 2) := nI_half' h
section EQU
variable {l : Launch} {Gr : zG} {n w : Nat} {d : Nat} {S A T B : zS} {c x y : Int32} {X Y E : Nat → Int32} {Q : Option Value → zS → Prop} {a b m : Nat}
theorem BU_pair : ∀ (r i : Nat), BU (pairP E r i)
  | 0, _ => BU_ret
  | 1, _ => BU_ret
  | r + 2, i => BU_op (fun _ => BU_bind (BU_pair r (i + 2)) (fun _ => BU_ret))
theorem BU_all : ∀ (f m : Nat) (E : Nat → Int32), BU (allP f m E)
  | 0, _, _ => BU_ret
  | f + 1, m, E => by
    unfold allP
    split
    · exact BU_ret
    · exact BU_bind (BU_pair m 0) (fun _ => BU_all f _ _)
theorem BU_xnor : ∀ (r i : Nat), BU (xnorP X Y r i)
  | 0, _ => BU_ret
  | r + 1, i => BU_op (fun _ => BU_bind (BU_xnor r (i + 1)) (fun _ => BU_ret))
theorem BU_eq : BU (eqP X Y m) := BU_bind (BU_xnor m 0) (fun _ => BU_all _ _ _)
theorem W_pair : ∀ (r i : Nat) (T : zS), (∀ j, VC T (E j)) → mWF VLs (pairP E r i) T
  | 0, _, _, _ => mWF_ret VLs_nil
  | 1, i, _, hE => mWF_ret (VLs_cons (hE i) VLs_nil)
  | r + 2, i, T, hE => mWF_op (fun _ => BU_bind (BU_pair r (i + 2)) (fun _ => BU_ret)) (hE i) (hE (i + 1)) (fun T1 v m1 hv => mWF_seq (fun _ => BU_ret) (W_pair r (i + 2) T1 (fun j => VC_m m1 (hE j))) (fun T2 os m2 h2 => mWF_ret (VLs_cons (m2 _ hv) h2)))
theorem W_all : ∀ (f m : Nat) (E : Nat → Int32) (T : zS), (∀ j, VC T (E j)) → mWF VC (allP f m E) T
  | 0, _, _, _, hE => mWF_ret (hE 0)
  | f + 1, m, E, T, hE => by
    unfold allP
    split
    · exact mWF_ret (hE 0)
    · exact mWF_seq (fun _ => BU_all _ _ _) (W_pair m 0 T hE) (fun T1 os _ h1 => W_all f _ _ T1 h1)
theorem W_xnor : ∀ (r i : Nat) (T : zS), (∀ j, VC T (X j)) → (∀ j, VC T (Y j)) → mWF VLs (xnorP X Y r i) T
  | 0, _, _, _, _ => mWF_ret VLs_nil
  | r + 1, i, T, hX, hY => mWF_op (fun _ => BU_bind (BU_xnor r (i + 1)) (fun _ => BU_ret)) (hX i) (hY i) (fun T1 v m1 hv => mWF_seq (fun _ => BU_ret) (W_xnor r (i + 1) T1 (fun j => VC_m m1 (hX j)) (fun j => VC_m m1 (hY j))) (fun T2 os m2 h2 => mWF_ret (VLs_cons (VC_f (m2 _ hv)) h2)))
theorem W_eq (hX : ∀ j, VC T (X j)) (hY : ∀ j, VC T (Y j)) : mWF VC (eqP X Y m) T := mWF_seq (fun _ => BU_all _ _ _) (W_xnor m 0 T hX hY) (fun T1 _ _ h1 => W_all _ _ _ T1 h1)
theorem kp_pair (hg : ip_gk (lg_tbl, vwCl, Gr)) (hw : w ≤ 32) (hm : m ≤ w) : ∀ (r q i : Nat) (S A : zS), i = 2 * q → i + r = m → KEc S A → GK S → (∀ j, i ≤ j → j < m → A.1 55 j = E j) → (∀ A', KEc ((pairP E r i).1 S).2 A' → FK (fun c j => c = 55 ∧ q ≤ j ∧ j < w) A A' → (∀ j, j < (r + 1) / 2 → A'.1 55 (q + j) = ((pairP E r i).1 S).1.getD j (-2)) → zW l Gr (zc n w) 168 M_Logic_all (d + 3) 74 [some (.ref 82), none, some (.int (nI m)), none] [] A' Q) → zW l Gr (zc n w) 168 M_Logic_all (d + 3) 9 [some (.ref 82), none, some (.int (nI m)), some (.int (nI i))] [] A Q
  | 0, q, i, S, A, hi, h, hK, hG, hE, hQ => b_Logic_all_9 (fun _ => b_Logic_all_51 (fun _ => hQ A hK FK_rfl (fun j hj => absurd hj (by omega))) (fun z => absurd z (by rw [nI_odd, show m % 2 = 0 by omega]; decide))) (fun z => absurd (by rw [nI_1]; exact nI_le (by omega) (by omega)) z)
  | 1, q, i, S, A, hi, h, hK, hG, hE, hQ => by
    have e1 : nI m - 1 = nI i := by rw [← h, nI_pred]
    have e2 : nI m / 2 = nI q := by rw [nI_half (by omega), show m / 2 = q by omega]
    refine b_Logic_all_9 (fun _ => b_Logic_all_51 (fun z => absurd (by rw [nI_odd, show m % 2 = 1 by omega]; rfl) z) (fun _ => b_Logic_all_58 (by rw [e1]; exact vp_in_nI (by omega) (by omega)) (by rw [e2]; exact vp_in_nI (by omega) (by omega)) ?_)) (fun z => absurd (by rw [nI_1]; exact nI_le (by omega) (by omega)) z)
    rw [e1, e2, nI_clamp (by omega), nI_clamp (by omega), hE i (by omega) (by omega)]
    refine hQ _ (KEc_zi hK (by omega)) (FK_zi ⟨rfl, by omega, by omega⟩) (fun j hj => ?_)
    rw [show j = 0 by omega]
    exact zi_v
  | r + 2, q, i, S, A, hi, h, hK, hG, hE, hQ => by
    have e2 : nI i / 2 = nI q := by rw [nI_half (by omega), show i / 2 = q by omega]
    refine b_Logic_all_9 (fun z => absurd z (by rw [nI_1]; exact nI_ge (by omega) (by omega))) (fun _ => b_Logic_all_16 hg (vp_in_nI (by omega) (by omega)) (by rw [nI_1]; exact vp_in_nI (by omega) (by omega)) (w_andK hg hK hG) (fun v A1 h1 => ?_))
    rw [nI_1, nI_clamp (by omega), nI_clamp (by omega), hE i (by omega) (by omega), hE (i + 1) (by omega) (by omega)] at h1
    obtain ⟨ev, K1, F1⟩ := h1
    subst ev
    refine b_Logic_all_44 (by rw [e2]; exact vp_in_nI (by omega) (by omega)) ?_
    rw [e2, nI_clamp (by omega), show nI i + Int32.ofInt 2 = nI (i + 2) from nI_add i 2]
    refine kp_pair hg hw hm r (q + 1) (i + 2) _ _ (by omega) (by omega) (KEc_zi K1 (by omega)) (k_op hG).1 (fun j q1 q2 => ?_) (fun A' e1 e2 e3 => hQ A' e1 ?_ (fun j hj => ?_))
    · rw [zi_k (by omega), F1.1 55 j (by omega) (by omega)]
      exact hE j (by omega) q2
    · exact FK_tr (FK_x (P := fun _ _ => False) F1) (FK_tr (FK_zi (P := fun c j => c = 55 ∧ j = q) ⟨rfl, rfl⟩) e2 (P'' := fun c j => c = 55 ∧ q ≤ j ∧ j < w) (by omega) (by omega)) (fun _ _ z => z.elim) (fun _ _ z => z)
    · cases j with
      | zero => exact (e2.1 55 (q + 0) (by omega) (by omega) (by omega)).trans zi_v
      | succ j => exact (congrArg (A'.1 55) (by omega)).trans (e3 j (by omega))
theorem kp_all (hg : ip_gk (lg_tbl, vwCl, Gr)) (hw : w ≤ 32) : ∀ (f m : Nat) (E : Nat → Int32) (S A : zS), m ≤ f + 1 → 1 ≤ m → m ≤ w → KEc S A → GK S → (∀ j, j < m → A.1 55 j = E j) → (∀ A', KEc ((allP f m E).1 S).2 A' → FK (fun c j => c = 55 ∧ j < w) A A' → Q (some (.int ((allP f m E).1 S).1)) A') → zW l Gr (zc n w) 168 M_Logic_all (d + 3) 2 [some (.ref 82), none, some (.int (nI m)), none] [] A Q
  | 0, m, E, S, A, hf, h1, hm, hK, hG, hE, hQ => by
    refine b_Logic_all_2 (fun _ => b_Logic_all_83 (vp_in_nI (n := 0) (by omega) (by omega)) ?_) (fun z => absurd (nI_le (a := m) (b := 1) (by omega) (by omega)) z)
    have : A.1 55 ((0 : Int32).toNatClampNeg) = E 0 := hE 0 (by omega)
    rw [this]
    exact hQ A hK FK_rfl
  | f + 1, m, E, S, A, hf, h1, hm, hK, hG, hE, hQ => by
    unfold allP at hQ
    by_cases z : m ≤ 1
    · rw [if_pos z] at hQ
      refine b_Logic_all_2 (fun _ => b_Logic_all_83 (vp_in_nI (n := 0) (by omega) (by omega)) ?_) (fun z => absurd (nI_le (a := m) (b := 1) (by omega) (by omega)) z)
      have : A.1 55 ((0 : Int32).toNatClampNeg) = E 0 := hE 0 (by omega)
      rw [this]
      exact hQ A hK FK_rfl
    · rw [if_neg z] at hQ
      refine b_Logic_all_2 (fun q => absurd q (nI_ge (a := 1) (b := m) (by omega) (by omega))) (fun _ => b_Logic_all_7 (kp_pair (E := E) hg hw hm m 0 0 S A rfl (by omega) hK hG (fun j _ q => hE j q) (fun A' e1 e2 e3 => b_Logic_all_74 ?_)))
      rw [nI_1, nI_half (by omega)]
      refine kp_all hg hw f ((m + 1) / 2) _ _ A' (by omega) (by omega) (by omega) e1 (k_run (BU_pair m 0) hG).1 (fun j hj => ?_) (fun A'' q1 q2 => hQ A'' q1 (FK_tr e2 q2 (by omega) (by omega)))
      have := e3 j hj
      rw [Nat.zero_add] at this
      exact this
theorem kp_xnor (hg : ip_gk (lg_tbl, vwCl, Gr)) (hw : w ≤ 32) (hm : m ≤ w) (ha : a + m ≤ 9682 * w) (hb : b + m ≤ 9682 * w) : ∀ (k i : Nat) (S A : zS), i + k = m → KEc S A → GK S → (∀ j, j < m → A.1 57 (a + j) = X j) → (∀ j, j < m → A.1 57 (b + j) = Y j) → (∀ A', KEc ((xnorP X Y k i).1 S).2 A' → FK (fun c j => c = 55 ∧ i ≤ j ∧ j < w) A A' → (∀ j, j < k → A'.1 55 (i + j) = ((xnorP X Y k i).1 S).1.getD j (-2)) → zW l Gr (zc n w) 168 M_Logic_equal (d + 4) 44 [some (.ref 82), none, none, none, some (.int (nI m)), none] [] A' Q) → zW l Gr (zc n w) 168 M_Logic_equal (d + 4) 3 [some (.ref 82), some (.ref 89), some (.int (nI a)), some (.int (nI b)), some (.int (nI m)), some (.int (nI i))] [] A Q
  | 0, i, S, A, h, hK, hG, hX, hY, hQ => b_Logic_equal_r89_3 (fun _ => hQ A hK FK_rfl (fun j hj => absurd hj (by omega))) (fun q => absurd (nI_le (a := m) (b := i) (by omega) (by omega)) q)
  | k + 1, i, S, A, h, hK, hG, hX, hY, hQ => by
    refine b_Logic_equal_r89_3 (fun q => absurd q (nI_ge (a := i) (b := m) (by omega) (by omega))) (fun _ => b_Logic_equal_r89_10 hg (by rw [nI_add]; exact vp_in_nI (by omega) (by omega)) (by rw [nI_add]; exact vp_in_nI (by omega) (by omega)) (w_xorK (d := d + 1) hg hK hG) (fun v A1 h1 => ?_))
    rw [nI_add, nI_add, nI_clamp (by omega), nI_clamp (by omega), hX i (by omega), hY i (by omega)] at h1
    obtain ⟨ev, K1, F1⟩ := h1
    subst ev
    refine b_Logic_equal_r89_35 (vp_in_nI (by omega) (by omega)) ?_
    rw [nI_clamp (by omega), show nI i + Int32.ofInt 1 = nI (i + 1) from nI_add i 1]
    refine kp_xnor hg hw hm ha hb k (i + 1) _ _ (by omega) (KEc_zi K1 (by omega)) (k_op hG).1 (fun j hj => ?_) (fun j hj => ?_) (fun A' e1 e2 e3 => hQ A' e1 ?_ (fun j hj => ?_))
    · rw [zi_c (by decide), F1.1 57 (a + j) (by omega) (by omega)]
      exact hX j hj
    · rw [zi_c (by decide), F1.1 57 (b + j) (by omega) (by omega)]
      exact hY j hj
    · exact FK_tr (FK_x (P := fun _ _ => False) F1) (FK_tr (FK_zi (P := fun c j => c = 55 ∧ j = i) ⟨rfl, rfl⟩) e2 (P'' := fun c j => c = 55 ∧ i ≤ j ∧ j < w) (by omega) (by omega)) (fun _ _ z => z.elim) (fun _ _ z => z)
    · cases j with
      | zero => exact (e2.1 55 (i + 0) (by omega) (by omega) (by omega)).trans zi_v
      | succ j => exact (congrArg (A'.1 55) (by omega)).trans (e3 j (by omega))
theorem w_equal (hg : ip_gk (lg_tbl, vwCl, Gr)) (hw : w ≤ 32) (hm1 : 1 ≤ m) (hm : m ≤ w) (ha : a + m ≤ 9682 * w) (hb : b + m ≤ 9682 * w) (hK : KEc S A) (hG : GK S) (hX : ∀ j, j < m → A.1 57 (a + j) = X j) (hY : ∀ j, j < m → A.1 57 (b + j) = Y j) : zMi l Gr (zc n w) 168 M_Logic_equal (d + 4) [.ref 82, .ref 89, .int (nI a), .int (nI b), .int (nI m)] A (fun v A' => v = ((eqP X Y m).1 S).1 ∧ KEc ((eqP X Y m).1 S).2 A' ∧ FK (fun c j => c = 55 ∧ j < w) A A') := by
  refine e_Logic_equal_r89 (b_Logic_equal_r89_0 (kp_xnor (X := X) (Y := Y) hg hw hm ha hb m 0 S A (by omega) hK hG hX hY (fun A' e1 e2 e3 => b_Logic_equal_r89_44 hg (R := fun v A'' => v = ((eqP X Y m).1 S).1 ∧ KEc ((eqP X Y m).1 S).2 A'' ∧ FK (fun c j => c = 55 ∧ j < w) A A'') (e_Logic_all (b_Logic_all_0 (kp_all hg hw m m _ _ A' (by omega) hm1 hm e1 (k_run (BU_xnor m 0) hG).1 (fun j hj => ?_) (fun A'' q1 q2 => ⟨_, rfl, rfl, q1, FK_tr e2 q2 (by omega) (by omega)⟩)))) (fun v A'' h => b_Logic_equal_r89_50 ⟨_, rfl, h⟩))))
  have := e3 j hj
  rw [Nat.zero_add] at this
  exact this
end EQU
