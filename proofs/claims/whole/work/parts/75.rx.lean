/-! the reference's loop over an EXPR, turn by turn -/
abbrev xL (x : Int32) : zL := [some (.ref 105), some (.int 0), some (.int x), some (.int 0), none, none]
def RX (l : Launch) (Gr : zG) (n w d : Nat) (T : zS) (x : Int32) (T' : zS) (x' : Int32) : Prop := ∀ Q, zW l Gr (zc n w) 168 M_Mo_expression (d + 10) 9 (xL x') [] T' Q → zW l Gr (zc n w) 168 M_Mo_expression (d + 10) 9 (xL x) [] T Q
/-- it ends -/
def EX (l : Launch) (Gr : zG) (n w d : Nat) (T : zS) (x : Int32) (T' : zS) : Prop := ∀ Q : Option Value → zS → Prop, Q none (zi T' 73 20 0) → zW l Gr (zc n w) 168 M_Mo_expression (d + 10) 9 (xL x) [] T Q
def nb (b : Nat → Int32) (t N q : Nat) : Prop := 2 * N ≤ q ∨ (2 * N ≤ q + 1 ∧ ¬ (q < t ∧ isn (b q)))
def bud (b : Nat → Int32) (t X j m N q : Nat) : Prop := j + 2 * m + X ≤ 3 * q ∧ m ≤ q ∧ nb b t N q
theorem ite_le {c : Prop} [Decidable c] {a b n : Nat} (h1 : a ≤ n) (h2 : b ≤ n) : (if c then a else b) ≤ n := by
  by_cases h : c
  · rw [if_pos h]; exact h1
  · rw [if_neg h]; exact h2
theorem okn_le (k : Int32) : okn k ≤ 18 := by
  unfold okn
  repeat refine ite_le (by decide) ?_
  decide
section RXS
variable {l : Launch} {Gr : zG} {n w : Nat} {d : Nat} {b : Nat → Int32} {t q p j dp m N : Nat} {T T' T'' : zS} {x x' x'' : Int32}
theorem nb_up {q' : Nat} (h : nb b t N q) (hq : q < q') : nb b t N q' := Or.inl (by rcases h with h | h <;> omega)
theorem nb_le {q' : Nat} (h : nb b t N q) (hq : q ≤ q') : nb b t N q' := by
  by_cases e : q = q'
  · subst e; exact h
  · exact nb_up h (by omega)
theorem bud_le {X q' : Nat} (h : bud b t X j m N q) (hq : q ≤ q') : bud b t X j m N q' := ⟨by have := h.1; omega, by have := h.2.1; omega, nb_le h.2.2 hq⟩
theorem RX_rfl : RX l Gr n w d T x T x := fun _ h => h
theorem RX_tr (h1 : RX l Gr n w d T x T' x') (h2 : RX l Gr n w d T' x' T'' x'') : RX l Gr n w d T x T'' x'' := fun Q h => h1 Q (h2 Q h)
theorem RX_EX (h1 : RX l Gr n w d T x T' x') (h2 : EX l Gr n w d T' x' T'') : EX l Gr n w d T x T'' := fun Q h => h1 Q (h2 Q h)
theorem EX_f (h : ¬ T.1 73 7 = 0) : EX l Gr n w d T x T := fun Q k => b_Mo_expression_9 (fun _ => b_Mo_expression_259 k) (fun z => absurd z h)
theorem zMi_ex {M : ip_M} {D : Nat} {As : List Value} {S : zS} {R : Int32 → zS → Prop} (h : zMi l Gr (zc n w) 168 M D As S R) : ∃ v S', R v S' ∧ zMi l Gr (zc n w) 168 M D As S (fun a A => a = v ∧ A = S') := by
  obtain ⟨v0, S', ⟨v, e, hR⟩, k⟩ := h
  exact ⟨v, S', hR, v0, S', ⟨v, e, rfl, rfl⟩, k⟩
theorem zMv_ex {M : ip_M} {D : Nat} {As : List Value} {S : zS} {R : zS → Prop} (h : zMv l Gr (zc n w) 168 M D As S R) : ∃ S', R S' ∧ zMv l Gr (zc n w) 168 M D As S (fun A => A = S') := by
  obtain ⟨v0, S', ⟨e, hR⟩, k⟩ := h
  exact ⟨S', hR, v0, S', ⟨e, rfl⟩, k⟩
theorem rx_0 (hg : ip_gk (lg_tbl, vwCl, Gr)) (h0 : T.1 73 7 = 0) (h : zMi l Gr (zc n w) 168 M_Mo_takeOperand (d + 9) [.ref 105] T (fun a A => a = 0 ∧ A = T')) : RX l Gr n w d T 1 T' 1 := fun Q k =>
  b_Mo_expression_9 (fun z => absurd h0 z) (fun _ => b_Mo_expression_16 (fun z => absurd rfl z) (fun _ => b_Mo_expression_20 (fun z => absurd z (by decide)) (fun _ => b_Mo_expression_24 hg h (fun v A hv => by
    rw [hv.1, hv.2]
    exact b_Mo_expression_34 (fun z => absurd rfl z) (fun _ => b_Mo_expression_37 (b_Mo_expression_42 (fun _ => b_Mo_expression_76 (b_Mo_expression_77 (fun _ => k) (fun z => absurd z (by decide)))) (fun z => absurd z (by decide))))))))
theorem rx_1 (hg : ip_gk (lg_tbl, vwCl, Gr)) (h0 : T.1 73 7 = 0) (h : zMi l Gr (zc n w) 168 M_Mo_takeOperand (d + 9) [.ref 105] T (fun a A => a = 1 ∧ A = T')) (h20 : T'.1 73 20 = T.1 73 20) (hs : zMv l Gr (zc n w) 168 M_Mo_signsOver (d + 9) [.ref 105, .int 0] T' (fun A => A = T'')) : RX l Gr n w d T 1 T'' 0 := fun Q k =>
  b_Mo_expression_9 (fun z => absurd h0 z) (fun _ => b_Mo_expression_16 (fun z => absurd rfl z) (fun _ => b_Mo_expression_20 (fun z => absurd z (by decide)) (fun _ => b_Mo_expression_24 hg h (fun v A hv => by
    rw [hv.1, hv.2]
    refine b_Mo_expression_34 (fun _ => b_Mo_expression_41 (b_Mo_expression_42 (fun z => absurd rfl z) (fun _ => b_Mo_expression_47 (fun _ => b_Mo_expression_76 (b_Mo_expression_77 (fun z => absurd rfl z) (fun _ => b_Mo_expression_83 (fun z => absurd rfl z) (fun _ => b_Mo_expression_88 hg hs (fun A e => by rw [e]; exact b_Mo_expression_93 k))))) (fun z => ?_)))) (fun z => absurd z (by decide))
    rw [h20] at z
    exact absurd (Int32.le_refl _) z))))
theorem rx_c (hg : ip_gk (lg_tbl, vwCl, Gr)) (h0 : T.1 73 7 = 0) (h : zMi l Gr (zc n w) 168 M_Mo_takeOperand (d + 9) [.ref 105] T (fun a A => a = 1 ∧ A = T')) (hm : m < 4100) (e1 : T.1 73 20 = nI m) (e2 : T'.1 73 20 = nI (m + 1)) (e3 : T'.1 83 m = 7) : RX l Gr n w d T 1 T' 0 := fun Q k =>
  b_Mo_expression_9 (fun z => absurd h0 z) (fun _ => b_Mo_expression_16 (fun z => absurd rfl z) (fun _ => b_Mo_expression_20 (fun z => absurd z (by decide)) (fun _ => b_Mo_expression_24 hg h (fun v A hv => by
    rw [hv.1, hv.2]
    have e : T'.1 73 20 - 1 = nI m := by rw [e2, nI_pred]
    refine b_Mo_expression_34 (fun _ => b_Mo_expression_41 (b_Mo_expression_42 (fun z => absurd rfl z) (fun _ => b_Mo_expression_47 (fun z => ?_) (fun _ => b_Mo_expression_56 (by rw [e]; exact vp_in_nI hm (by omega)) (fun z => ?_) (fun _ => b_Mo_expression_72 (b_Mo_expression_77 (fun z => absurd rfl z) (fun _ => b_Mo_expression_83 (fun _ => k) (fun z => absurd z (by decide))))))))) (fun z => absurd z (by decide))
    · rw [e1, e2] at z
      exact absurd z (nI_ge (by omega) (by omega))
    · rw [e, nI_clamp (by omega)] at z
      exact absurd e3 z))))
/-- an operator: what is no weaker is settled, it waits -/
theorem rx_op (hg : ip_gk (lg_tbl, vwCl, Gr)) {os : Nat → Nat} {y o : Nat} (htx : ∀ k, k < t → tx (b k)) (h : MC b t q j dp (m + y) N T) (hgq : gp b t q = p) (ho : okn (tk b t p) = o) (o0 : ¬ o = 0) (h1 : m + y < 4100) (hj0 : 0 < j) (h2 : j + y ≤ 12000) (hu : ∀ k, k < y → T.1 83 (m + k) = 1 ∧ T.1 84 (m + k) = nI (os k) ∧ ¬ os k = 0 ∧ os k ≤ 18) (hb : m = 0 ∨ ¬ T.1 83 (m - 1) = 1) (hf : ¬ T.1 78 (j - 1) = 8) :
    RX l Gr n w d T 0 (zi (mU (mRd (pops os (rk o) y) (zi T 73 6 (nI p)) j (m + y)) (m + y - pops os (rk o) y) 1 (nI o) (nI p)) 73 6 (nI (te b t p))) 1 := fun Q k => by
  have h' := MC_p h hgq
  have hp : p ≤ t := h'.1.2.2.2.1
  have o18 : o ≤ 18 := by
    rw [← ho]
    exact okn_le _
  refine b_Mo_expression_9 (fun z => absurd h.2.1 z) (fun _ => b_Mo_expression_16 (fun z => absurd rfl z) (fun _ => b_Mo_expression_20 (fun _ => b_Mo_expression_96 hg (wm_gap hg h.1) (fun A e => ?_)) (fun z => absurd rfl z)))
  rw [e, hgq]
  refine b_Mo_expression_100 hg (wm_operator hg h'.1) (fun v A hv => ?_)
  rw [hv.1, hv.2, tk_op htx hp, ho]
  have k142 : zW l Gr (zc n w) 168 M_Mo_expression (d + 10) 142 [some (.ref 105), some (.int 0), none, some (.int 0), some (.int (nI o)), none] [] (zi T 73 6 (nI p)) Q := by
    refine b_Mo_expression_142 hg (wm_rank o18 o0) (fun v A hv => ?_)
    rw [hv.1, hv.2]
    have hrk : rk o ≤ 10 := (show ∀ o, o ≤ 18 → rk o ≤ 10 by decide) _ o18
    refine b_Mo_expression_149 hg (wm_reduce (os := os) (r := rk o) (wm := m) (x := y) (j := j) hg (by omega) (by omega) h2 h'.2.2.1 h'.2.2.2.2.1 (fun k hk => by rw [zi_c (by decide), zi_c (by decide)]; exact hu k hk) (by rw [zi_c (by decide)]; exact hb)) (fun A e => ?_)
    rw [e]
    have pl := pops_le os (rk o) y
    have h3 := mRd_MC (pops os (rk o) y) _ j (m + y) h' (by omega)
    refine b_Mo_expression_152 hg (wm_push h3.2.2.2.2.1 (by omega)) (fun A e => ?_)
    rw [e, h3.1.2.2.1]
    have h4 := MC_mU (x1 := 1) (x2 := nI o) (x3 := nI p) h3
    refine b_Mo_expression_163 hg (wm_isPair hg h4.1) (fun v A hv => ?_)
    rw [hv.1, hv.2, h4.1.2.2.1]
    by_cases z : pr (lk b t p) (lk b t (p + 1))
    · rw [if_pos z]
      refine b_Mo_expression_172 (fun z => absurd z (by decide)) (fun _ => b_Mo_expression_175 (b_Mo_expression_180 (b_Mo_expression_256 ?_)))
      have et : te b t p = p + 2 := by
        rcases tk_all htx hp with ⟨-, e, -, el⟩ | ⟨hpt, hd, el, e, -⟩ | ⟨hpt, hl, el, e, -, -⟩ | ⟨-, hn, el, -, -, a2⟩
        · rw [e] at ho; exact absurd ho.symm (by intro y; exact o0 (by rw [y]; decide))
        · rw [e] at ho; exact absurd ho.symm (by intro y; exact o0 (by rw [y]; decide))
        · exfalso
          rw [e] at ho
          rcases wk_cases (wd b p (we b t p)) with w1 | ⟨k', hk, w1⟩
          · rw [w1] at ho; exact o0 (by rw [← ho]; decide)
          · rw [w1] at ho
            exact o0 (by rw [← ho]; exact (show ∀ k, k < 13 → okn (nI (200 + k)) = 0 by decide) k' hk)
        · exact (a2 z).2.2
      rw [show nI p + 2 = nI (te b t p) from by rw [et]; exact nI_add p 2]
      exact k
    · rw [if_neg z]
      refine b_Mo_expression_172 (fun _ => b_Mo_expression_179 (b_Mo_expression_180 (b_Mo_expression_256 ?_))) (fun z => absurd rfl z)
      have et : te b t p = p + 1 := by
        rcases tk_all htx hp with ⟨-, e, -, el⟩ | ⟨hpt, hd, el, e, -⟩ | ⟨hpt, hl, el, e, -, -⟩ | ⟨-, hn, el, -, a1, -⟩
        · rw [e] at ho; exact absurd ho.symm (by intro y; exact o0 (by rw [y]; decide))
        · rw [e] at ho; exact absurd ho.symm (by intro y; exact o0 (by rw [y]; decide))
        · exfalso
          rw [e] at ho
          rcases wk_cases (wd b p (we b t p)) with w1 | ⟨k', hk, w1⟩
          · rw [w1] at ho; exact o0 (by rw [← ho]; decide)
          · rw [w1] at ho
            exact o0 (by rw [← ho]; exact (show ∀ k, k < 13 → okn (nI (200 + k)) = 0 by decide) k' hk)
        · exact (a1 z).2
      rw [show nI p + 1 = nI (te b t p) from by rw [et]; exact nI_add p 1]
      exact k
  refine b_Mo_expression_104 (fun z => absurd z (nI_nle (by omega) (by omega))) (fun _ => b_Mo_expression_111 (fun _ => k142) (fun z => ?_))
  have hm : 0 < m + y := Nat.pos_of_ne_zero (fun e => z (by rw [h'.2.2.2.2.1, e]; exact Int32.le_refl _))
  have e : (zi T 73 6 (nI p)).1 73 20 - 1 = nI (m + y - 1) := by rw [h'.2.2.2.2.1]; exact pk_sub (a := m + y) (b := 1) (by omega)
  have ej : (zi T 73 6 (nI p)).1 73 13 - 1 = nI (j - 1) := by rw [h'.2.2.1]; exact pk_sub (a := j) (b := 1) (by omega)
  refine b_Mo_expression_119 (by rw [e]; exact vp_in_nI (by omega) (by omega)) (fun _ => k142) (fun _ => b_Mo_expression_135 (R := fun v S' => v = 0 ∧ S' = zi T 73 6 (nI p)) hg (e_Mo_isFresh (b_Mo_isFresh_0 (by rw [ej]; exact vp_in_nI (by omega) (by omega)) (fun _ => b_Mo_isFresh_70 (b_Mo_isFresh_71 ⟨_, rfl, Or.inl rfl, rfl, rfl⟩)) (fun y => ?_))) (fun v A hv => ?_))
  · rw [ej, nI_clamp (by omega), zi_c (by decide)] at y
    exact absurd y hf
  · rw [hv.1, hv.2]
    exact b_Mo_expression_139 (fun z => absurd rfl z) (fun _ => k142)
/-- no operator: ? or what closes decides -/
theorem rx_n (hg : ip_gk (lg_tbl, vwCl, Gr)) (htx : ∀ k, k < t → tx (b k)) {Q : Option Value → zS → Prop} (h : MC b t q j dp m N T) (hgq : gp b t q = p) (ho : okn (tk b t p) = 0) (kq : tk b t p = 63 → zW l Gr (zc n w) 168 M_Mo_expression (d + 10) 198 [some (.ref 105), some (.int 0), none, some (.int 0), none, none] [] (zi T 73 6 (nI p)) Q) (kn : ¬ tk b t p = 63 → zW l Gr (zc n w) 168 M_Mo_expression (d + 10) 237 [some (.ref 105), some (.int 0), none, none, none, none] [] (zi T 73 6 (nI p)) Q) : zW l Gr (zc n w) 168 M_Mo_expression (d + 10) 9 (xL 0) [] T Q := by
  have h' := MC_p h hgq
  have hp : p ≤ t := h'.1.2.2.2.1
  refine b_Mo_expression_9 (fun z => absurd h.2.1 z) (fun _ => b_Mo_expression_16 (fun z => absurd rfl z) (fun _ => b_Mo_expression_20 (fun _ => b_Mo_expression_96 hg (wm_gap hg h.1) (fun A e => ?_)) (fun z => absurd rfl z)))
  rw [e, hgq]
  refine b_Mo_expression_100 hg (wm_operator hg h'.1) (fun v A hv => ?_)
  rw [hv.1, hv.2, tk_op htx hp, ho]
  refine b_Mo_expression_104 (fun _ => b_Mo_expression_189 hg (wm_isSign hg h'.1) (fun v A hv => ?_)) (fun z => absurd (Int32.le_refl _) z)
  rw [hv.1, hv.2]
  by_cases z : tk b t p = 63
  · rw [if_pos ((tk_sg htx hp (by decide) (by decide) (by decide)).mpr z)]
    exact b_Mo_expression_195 (fun z => absurd z (by decide)) (fun _ => kq z)
  · rw [if_neg (fun y => z ((tk_sg htx hp (by decide) (by decide) (by decide)).mp y))]
    exact b_Mo_expression_195 (fun _ => kn z) (fun z => absurd rfl z)
/-- ? : all binaries settle, it waits -/
theorem rx_q (hg : ip_gk (lg_tbl, vwCl, Gr)) {os : Nat → Nat} {y : Nat} (htx : ∀ k, k < t → tx (b k)) (h : MC b t q j dp (m + y) N T) (hgq : gp b t q = p) (hk : tk b t p = 63) (h1 : m + y < 4100) (h2 : j + y ≤ 12000) (hu : ∀ k, k < y → T.1 83 (m + k) = 1 ∧ T.1 84 (m + k) = nI (os k) ∧ ¬ os k = 0 ∧ os k ≤ 18) (hb : m = 0 ∨ ¬ T.1 83 (m - 1) = 1) (hd : dp < 30) :
    RX l Gr n w d T 0 (zi (mU (zi (mRd y (zi T 73 6 (nI p)) j (m + y)) 73 19 (nI (dp + 1))) m 3 0 (nI p)) 73 6 (nI (p + 1))) 1 := fun Q k => by
  have h' := MC_p h hgq
  refine rx_n hg htx h hgq (by rw [hk]; decide) (fun _ => ?_) (fun z => absurd hk z)
  refine b_Mo_expression_198 hg (wm_reduce (os := os) (r := 0) (wm := m) (x := y) (j := j) hg (by omega) (by omega) h2 h'.2.2.1 h'.2.2.2.2.1 (fun k hk => by rw [zi_c (by decide), zi_c (by decide)]; exact hu k hk) (by rw [zi_c (by decide)]; exact hb)) (fun A e => ?_)
  rw [pops_0] at e
  rw [e]
  have h3 := mRd_MC y _ j (m + y) h' (by omega)
  rw [show m + y - y = m by omega] at h3
  refine b_Mo_expression_204 hg (wm_deeper hg h3.2.2.2.1 hd) (fun A e => ?_)
  rw [e]
  have h4 := MC_dp (d' := dp + 1) h3
  refine b_Mo_expression_212 hg (wm_push h4.2.2.2.2.1 (by omega)) (fun A e => ?_)
  rw [e, h4.1.2.2.1]
  have h5 := MC_mU (x1 := 3) (x2 := 0) (x3 := nI p) h4
  refine b_Mo_expression_222 (b_Mo_expression_256 ?_)
  rw [h5.1.2.2.1, nI_1]
  exact k
theorem rx_qF (hg : ip_gk (lg_tbl, vwCl, Gr)) {os : Nat → Nat} {y : Nat} (htx : ∀ k, k < t → tx (b k)) (h : MC b t q j 30 (m + y) N T) (hgq : gp b t q = p) (hk : tk b t p = 63) (h1 : m + y < 4100) (h2 : j + y ≤ 12000) (hu : ∀ k, k < y → T.1 83 (m + k) = 1 ∧ T.1 84 (m + k) = nI (os k) ∧ ¬ os k = 0 ∧ os k ≤ 18) (hb : m = 0 ∨ ¬ T.1 83 (m - 1) = 1) :
    ∃ T', EX l Gr n w d T 0 T' ∧ T'.1 73 7 = 3 ∧ T'.1 73 8 = nI p ∧ MK b t T T' 0 0 := by
  have h' := MC_p h hgq
  have h3 := mRd_MC y _ j (m + y) h' (by omega)
  rw [show m + y - y = m by omega] at h3
  refine ⟨zi (mU (zi (mF (mRd y (zi T 73 6 (nI p)) j (m + y)) 3 (nI p)) 73 19 (nI 31)) m 3 0 (nI p)) 73 6 (nI (p + 1)), fun Q k => ?_, ?_, ?_, MK_tr (MK_tr (MK_tr (MK_tr (MK_tr (MK_zi (by omega)) (mRd_MK y _ j (m + y) (by omega))) MK_mF) (MK_zi (by omega))) (MK_mU (by omega))) (MK_zi (by omega))⟩
  · refine rx_n hg htx h hgq (by rw [hk]; decide) (fun _ => ?_) (fun z => absurd hk z)
    refine b_Mo_expression_198 hg (wm_reduce (os := os) (r := 0) (wm := m) (x := y) (j := j) hg (by omega) (by omega) h2 h'.2.2.1 h'.2.2.2.2.1 (fun k hk => by rw [zi_c (by decide), zi_c (by decide)]; exact hu k hk) (by rw [zi_c (by decide)]; exact hb)) (fun A e => ?_)
    rw [pops_0] at e
    rw [e]
    refine b_Mo_expression_204 hg (wm_deeperF hg h3.2.2.2.1 h3.2.1) (fun A e => ?_)
    rw [h3.1.2.2.1] at e
    rw [e]
    have f6 : (zi (mF (mRd y (zi T 73 6 (nI p)) j (m + y)) 3 (nI p)) 73 19 (nI 31)).1 73 6 = nI p := by
      unfold mF
      rw [zi_k (by decide), zi_k (by decide), zi_k (by decide)]
      exact h3.1.2.2.1
    refine b_Mo_expression_212 hg (wm_push (m := m) (by unfold mF; rw [zi_k (by decide), zi_k (by decide), zi_k (by decide)]; exact h3.2.2.2.2.1) (by omega)) (fun A e => ?_)
    rw [e, f6]
    have f6' : (mU (zi (mF (mRd y (zi T 73 6 (nI p)) j (m + y)) 3 (nI p)) 73 19 (nI 31)) m 3 0 (nI p)).1 73 6 = nI p := by
      unfold mU
      rw [zi_k (by decide), zi_c (by decide), zi_c (by decide), zi_c (by decide), zi_c (by decide)]
      exact f6
    refine b_Mo_expression_222 (b_Mo_expression_256 ?_)
    rw [f6', nI_1]
    refine b_Mo_expression_9 (fun _ => b_Mo_expression_259 k) (fun z => ?_)
    exfalso
    unfold mU mF at z
    rw [zi_k (by decide), zi_k (by decide), zi_c (by decide), zi_c (by decide), zi_c (by decide), zi_c (by decide), zi_k (by decide), zi_k (by decide), zi_v] at z
    exact absurd z (by decide)
  · unfold mU mF
    rw [zi_k (by decide), zi_k (by decide), zi_c (by decide), zi_c (by decide), zi_c (by decide), zi_c (by decide), zi_k (by decide), zi_k (by decide), zi_v]
  · unfold mU mF
    rw [zi_k (by decide), zi_k (by decide), zi_c (by decide), zi_c (by decide), zi_c (by decide), zi_c (by decide), zi_k (by decide), zi_v]
/-- what closes lets it go on -/
theorem rx_cl (hg : ip_gk (lg_tbl, vwCl, Gr)) (htx : ∀ k, k < t → tx (b k)) (h : MC b t q j dp m N T) (hgq : gp b t q = p) (ho : okn (tk b t p) = 0) (h63 : ¬ tk b t p = 63) (hc : zMi l Gr (zc n w) 168 M_Mo_closes (d + 9) [.ref 105, .int 0] (zi T 73 6 (nI p)) (fun a A => a = 1 ∧ A = T')) : RX l Gr n w d T 0 T' (T'.1 73 25) := fun Q k =>
  rx_n hg htx h hgq ho (fun z => absurd z h63) (fun _ => b_Mo_expression_237 hg hc (fun v A hv => by
    rw [hv.1, hv.2]
    exact b_Mo_expression_242 (fun _ => b_Mo_expression_249 (b_Mo_expression_250 (b_Mo_expression_256 k))) (fun z => absurd z (by decide))))
/-- it is over -/
theorem rx_e (hg : ip_gk (lg_tbl, vwCl, Gr)) (htx : ∀ k, k < t → tx (b k)) (h : MC b t q j dp m N T) (hgq : gp b t q = p) (ho : okn (tk b t p) = 0) (h63 : ¬ tk b t p = 63) (hc : zMi l Gr (zc n w) 168 M_Mo_closes (d + 9) [.ref 105, .int 0] (zi T 73 6 (nI p)) (fun a A => a = 0 ∧ A = T')) : EX l Gr n w d T 0 T' := fun Q k =>
  rx_n hg htx h hgq ho (fun z => absurd z h63) (fun _ => b_Mo_expression_237 hg hc (fun v A hv => by
    rw [hv.1, hv.2]
    exact b_Mo_expression_242 (fun z => absurd rfl z) (fun _ => b_Mo_expression_245 (b_Mo_expression_250 (b_Mo_expression_256 (b_Mo_expression_9 (fun _ => b_Mo_expression_259 k) (fun _ => b_Mo_expression_16 (fun _ => b_Mo_expression_259 k) (fun z => absurd z (by decide)))))))))
end RXS
