/-! the reference's closes, behind an EXPR -/
section CL
variable {l : Launch} {Gr : zG} {n w : Nat} {d : Nat} {b : Nat → Int32} {t p j dp m N : Nat} {T Y : zS} {Q : Option Value → zS → Prop}
theorem MC_25 {v : Int32} {q : Nat} (h : MC b t q j dp m N T) : MC b t q j dp m N (zi T 73 25 v) := MC_o h (by omega)
/-- what a closing EXPR leaves: binaries, then selects settled -/
def mRA (T : zS) (x c j dp m : Nat) : zS := mCo c (mRd x (zi T 73 25 0) j (m + x)) (j + x) dp m
theorem cl_0 (hg : ip_gk (lg_tbl, vwCl, Gr)) {os : Nat → Nat} {x c : Nat} (h : MC b t p j dp (m + x) N T) (h1 : c ≤ m) (h2 : c ≤ dp) (h3 : m + x ≤ 4100) (h4 : dp ≤ 100) (hj0 : 0 < j) (h5 : j + x + c ≤ 12000) (hx : ∀ k, k < x → T.1 83 (m + k) = 1 ∧ T.1 84 (m + k) = nI (os k) ∧ ¬ os k = 0 ∧ os k ≤ 18) (hu : ∀ k, k < c → T.1 83 (m - 1 - k) = 4) (hb : c = m ∨ (¬ T.1 83 (m - 1 - c) = 4 ∧ ¬ T.1 83 (m - 1 - c) = 1)) (hf : ¬ T.1 78 (j - 1) = 8)
    (k : zW l Gr (zc n w) 168 M_Mo_closes (d + 3) 51 [some (.ref 105), some (.int 0), some (.int 0), none, none, none, none] [] (mRA T x c j dp m) Q) : zW l Gr (zc n w) 168 M_Mo_closes (d + 3) 0 [some (.ref 105), some (.int 0), none, none, none, none, none] [] T Q := by
  have hT := MC_25 (v := 0) h
  have w83 : ∀ k', (zi T 73 25 0).1 83 k' = T.1 83 k' := fun k' => zi_c (by decide)
  have w84 : ∀ k', (zi T 73 25 0).1 84 k' = T.1 84 k' := fun k' => zi_c (by decide)
  have go : zW l Gr (zc n w) 168 M_Mo_closes (d + 3) 40 [some (.ref 105), some (.int 0), none, none, none, none, none] [] (zi T 73 25 0) Q := by
    refine b_Mo_closes_40 (b_Mo_closes_41 (fun y => absurd rfl y) (fun _ => b_Mo_closes_46 hg (wm_reduceAll (os := os) (x := x) (c := c) (j := j) (dp := dp) (m := m) hg h1 h2 h3 h4 h5 hT.2.2.1 hT.2.2.2.1 hT.2.2.2.2.1 (fun k hk => by rw [w83, w84]; exact hx k hk) (fun k hk => by rw [w83]; exact hu k hk) (by rw [w83]; exact hb)) (fun T1 e1 => ?_)))
    rw [e1]
    exact k
  refine b_Mo_closes_0 (fun _ => go) (fun z => ?_)
  have hm : 0 < m + x := Nat.pos_of_ne_zero (fun y => z (by rw [h.2.2.2.2.1, y]; exact Int32.le_refl _))
  have e : (zi T 73 25 0).1 73 20 - 1 = nI (m + x - 1) := by rw [hT.2.2.2.2.1]; exact pk_sub (a := m + x) (b := 1) (by omega)
  refine b_Mo_closes_13 (by rw [e]; exact vp_in_nI (by omega) (by omega)) (fun _ => go) (fun _ => ?_)
  have ej : (zi T 73 25 0).1 73 13 - 1 = nI (j - 1) := by rw [hT.2.2.1]; exact pk_sub (a := j) (b := 1) (by omega)
  refine b_Mo_closes_29 (R := fun v S' => v = 0 ∧ S' = zi T 73 25 0) hg (e_Mo_isFresh (b_Mo_isFresh_0 (by rw [ej]; exact vp_in_nI (by omega) (by omega)) (fun _ => b_Mo_isFresh_70 (b_Mo_isFresh_71 ⟨_, rfl, Or.inl rfl, rfl, rfl⟩)) (fun y => ?_))) (fun v T1 hv => ?_)
  · rw [ej, nI_clamp (by omega), zi_c (by decide)] at y
    exact absurd y hf
  · rw [hv.1, hv.2]
    exact b_Mo_closes_33 (fun _ => go) (fun y => absurd rfl y)
/-- a call without EXPRs: nothing is settled -/
theorem cl_0f (hg : ip_gk (lg_tbl, vwCl, Gr)) (h : MC b t p j dp m N T) (hm : 0 < m) (h3 : m ≤ 4100) (hj0 : 0 < j) (h5 : j ≤ 12000) (hc : T.1 83 (m - 1) = 7) (h84 : T.1 84 (m - 1) = nI (j - 1)) (hf : T.1 78 (j - 1) = 8)
    (k : zW l Gr (zc n w) 168 M_Mo_closes (d + 3) 51 [some (.ref 105), some (.int 0), some (.int 1), none, none, none, none] [] (zi T 73 25 0) Q) : zW l Gr (zc n w) 168 M_Mo_closes (d + 3) 0 [some (.ref 105), some (.int 0), none, none, none, none, none] [] T Q := by
  have hT := MC_25 (v := 0) h
  have e : (zi T 73 25 0).1 73 20 - 1 = nI (m - 1) := by rw [hT.2.2.2.2.1]; exact pk_sub (a := m) (b := 1) (by omega)
  have ej : (zi T 73 25 0).1 73 13 - 1 = nI (j - 1) := by rw [hT.2.2.1]; exact pk_sub (a := j) (b := 1) (by omega)
  have e84 : (zi T 73 25 0).1 84 (((zi T 73 25 0).1 73 20 - 1).toNatClampNeg) = nI (j - 1) := by rw [e, nI_clamp (by omega), zi_c (by decide)]; exact h84
  have g1 : vp_in ((zi T 73 25 0).1 73 13 - 1) 12000 := by rw [ej]; exact vp_in_nI (by omega) (by omega)
  have g2 : vp_in ((zi T 73 25 0).1 73 20 - 1) 4100 := by rw [e]; exact vp_in_nI (by omega) (by omega)
  have g3 : vp_in ((zi T 73 25 0).1 84 (((zi T 73 25 0).1 73 20 - 1).toNatClampNeg)) 12000 := by rw [e84]; exact vp_in_nI (by omega) (by omega)
  refine b_Mo_closes_0 (fun z => ?_) (fun _ => b_Mo_closes_13 g2 (fun y => ?_) (fun _ => ?_))
  · rw [h.2.2.2.2.1] at z
    exact absurd z (nI_ge (a := 0) (b := m) (by omega) (by omega))
  · rw [e, nI_clamp (by omega), zi_c (by decide)] at y
    exact absurd hc y
  · refine b_Mo_closes_29 (R := fun v S' => v = 1 ∧ S' = zi T 73 25 0) hg (e_Mo_isFresh (b_Mo_isFresh_0 g1 (fun y => ?_) (fun _ => b_Mo_isFresh_16 g1 g2 g3 (fun y => ?_) (fun _ => b_Mo_isFresh_46 g2 (fun y => ?_) (fun _ => b_Mo_isFresh_66 (b_Mo_isFresh_71 ⟨_, rfl, Or.inr rfl, rfl, rfl⟩)))))) (fun v T1 hv => ?_)
    · rw [ej, nI_clamp (by omega), zi_c (by decide)] at y
      exact absurd hf y
    · rw [e84, ej] at y
      exact absurd rfl y
    · rw [e84, ej] at y
      exact absurd rfl y
    · rw [hv.1, hv.2]
      exact b_Mo_closes_33 (fun y => absurd y (by decide)) (fun _ => b_Mo_closes_36 (b_Mo_closes_41 (fun _ => k) (fun y => absurd y (by decide))))
/-- what stands behind it, and what waits, decide -/
theorem cl_51 (hg : ip_gk (lg_tbl, vwCl, Gr)) (htx : ∀ k, k < t → tx (b k)) {x2 : Int32} (h : MC b t p j dp m N Y) (hm : 0 < m) (h3 : m ≤ 4100)
    (kcol : tk b t p = 58 → Y.1 83 (m - 1) = 3 → Q (some (.int 1)) (zi (zi (zi Y 83 (m - 1) 4) 73 6 (nI (p + 1))) 73 25 1))
    (kcom : tk b t p = 44 → ((Y.1 83 (m - 1) = 7 ∧ x2 = 0) ∨ (Y.1 83 (m - 1) = 9 ∧ Y.1 86 (m - 1) = 0)) → zW l Gr (zc n w) 168 M_Mo_closes (d + 3) 155 [some (.ref 105), none, none, some (.int (Y.1 83 (m - 1))), none, none, none] [] Y Q)
    (kclo : ((tk b t p = 41 ∧ (Y.1 83 (m - 1) = 5 ∨ Y.1 83 (m - 1) = 7 ∨ Y.1 83 (m - 1) = 8 ∨ (Y.1 83 (m - 1) = 9 ∧ Y.1 86 (m - 1) = 1))) ∨ (tk b t p = 93 ∧ Y.1 83 (m - 1) = 6)) → zW l Gr (zc n w) 168 M_Mo_closes (d + 3) 306 [some (.ref 105), some (.int 0), some (.int x2), some (.int (Y.1 83 (m - 1))), none, none, none] [] Y Q)
    (kbad : ¬ (tk b t p = 58 ∧ Y.1 83 (m - 1) = 3) → ¬ (tk b t p = 44 ∧ ((Y.1 83 (m - 1) = 7 ∧ x2 = 0) ∨ (Y.1 83 (m - 1) = 9 ∧ Y.1 86 (m - 1) = 0))) → ¬ ((tk b t p = 41 ∧ (Y.1 83 (m - 1) = 5 ∨ Y.1 83 (m - 1) = 7 ∨ Y.1 83 (m - 1) = 8 ∨ (Y.1 83 (m - 1) = 9 ∧ Y.1 86 (m - 1) = 1))) ∨ (tk b t p = 93 ∧ Y.1 83 (m - 1) = 6)) → Q (some (.int 0)) (mF Y 1 (nI p))) :
    zW l Gr (zc n w) 168 M_Mo_closes (d + 3) 51 [some (.ref 105), some (.int 0), some (.int x2), none, none, none, none] [] Y Q := by
  have hp : p ≤ t := h.1.2.2.2.1
  have e : Y.1 73 20 - 1 = nI (m - 1) := by rw [h.2.2.2.2.1]; exact pk_sub (a := m) (b := 1) (by omega)
  have hin : vp_in (Y.1 73 20 - 1) 4100 := by rw [e]; exact vp_in_nI (by omega) (by omega)
  have e83 : Y.1 83 ((Y.1 73 20 - 1).toNatClampNeg) = Y.1 83 (m - 1) := by rw [e, nI_clamp (by omega)]
  have e86 : Y.1 86 ((Y.1 73 20 - 1).toNatClampNeg) = Y.1 86 (m - 1) := by rw [e, nI_clamp (by omega)]
  have S58 := tk_sg htx hp (c := 58) (by decide) (by decide) (by decide)
  have S44 := tk_sg htx hp (c := 44) (by decide) (by decide) (by decide)
  have S41 := tk_sg htx hp (c := 41) (by decide) (by decide) (by decide)
  have S93 := tk_sg htx hp (c := 93) (by decide) (by decide) (by decide)
  refine b_Mo_closes_51 (fun _ => ?_) (fun y => ?_)
  · refine b_Mo_closes_61 hg hin (wm_isSign hg h.1) (fun v Y1 hv => ?_)
    rw [hv.1, hv.2, e83]
    have clo : ((tk b t p = 41 ∧ (Y.1 83 (m - 1) = 5 ∨ Y.1 83 (m - 1) = 7 ∨ Y.1 83 (m - 1) = 8 ∨ (Y.1 83 (m - 1) = 9 ∧ Y.1 86 (m - 1) = 1))) ∨ (tk b t p = 93 ∧ Y.1 83 (m - 1) = 6)) → zW l Gr (zc n w) 168 M_Mo_closes (d + 3) 283 [some (.ref 105), some (.int 0), some (.int x2), some (.int (Y.1 83 (m - 1))), none, none, none] [] Y Q := fun y =>
      b_Mo_closes_283 (b_Mo_closes_288 (fun _ => kclo y) (fun z => absurd z (by decide)))
    have bad : ¬ (tk b t p = 58 ∧ Y.1 83 (m - 1) = 3) → ¬ (tk b t p = 44 ∧ ((Y.1 83 (m - 1) = 7 ∧ x2 = 0) ∨ (Y.1 83 (m - 1) = 9 ∧ Y.1 86 (m - 1) = 0))) → ¬ ((tk b t p = 41 ∧ (Y.1 83 (m - 1) = 5 ∨ Y.1 83 (m - 1) = 7 ∨ Y.1 83 (m - 1) = 8 ∨ (Y.1 83 (m - 1) = 9 ∧ Y.1 86 (m - 1) = 1))) ∨ (tk b t p = 93 ∧ Y.1 83 (m - 1) = 6)) → zW l Gr (zc n w) 168 M_Mo_closes (d + 3) 287 [some (.ref 105), some (.int 0), some (.int x2), some (.int (Y.1 83 (m - 1))), none, none, none] [] Y Q := fun y1 y2 y3 => by
      refine b_Mo_closes_287 (b_Mo_closes_288 (fun z => absurd rfl z) (fun _ => b_Mo_closes_295 hg (wm_fail h.2.1) (fun Y1 e1 => b_Mo_closes_304 ?_)))
      rw [e1, h.1.2.2.1]
      exact kbad y1 y2 y3
    have k221 : ¬ (tk b t p = 58 ∧ Y.1 83 (m - 1) = 3) → ¬ (tk b t p = 44 ∧ ((Y.1 83 (m - 1) = 7 ∧ x2 = 0) ∨ (Y.1 83 (m - 1) = 9 ∧ Y.1 86 (m - 1) = 0))) → zW l Gr (zc n w) 168 M_Mo_closes (d + 3) 221 [some (.ref 105), some (.int 0), some (.int x2), some (.int (Y.1 83 (m - 1))), none, none, none] [] Y Q := fun y1 y2 => by
      have k268 : ¬ (tk b t p = 41 ∧ (Y.1 83 (m - 1) = 5 ∨ Y.1 83 (m - 1) = 7 ∨ Y.1 83 (m - 1) = 8 ∨ (Y.1 83 (m - 1) = 9 ∧ Y.1 86 (m - 1) = 1))) → zW l Gr (zc n w) 168 M_Mo_closes (d + 3) 268 [some (.ref 105), some (.int 0), some (.int x2), some (.int (Y.1 83 (m - 1))), none, none, none] [] Y Q := fun y3 => by
        refine b_Mo_closes_268 hg (wm_isSign hg h.1) (fun v Y1 hv => ?_)
        rw [hv.1, hv.2]
        by_cases z : tk b t p = 93
        · rw [if_pos (S93.mpr z)]
          exact b_Mo_closes_274 (fun q => absurd q (by decide)) (fun _ => b_Mo_closes_277 (fun q => bad y1 y2 (fun x => x.elim y3 (fun x => q x.2))) (fun q => clo (Or.inr ⟨z, q⟩)))
        · rw [if_neg (fun y => z (S93.mp y))]
          exact b_Mo_closes_274 (fun _ => bad y1 y2 (fun x => x.elim y3 (fun x => z x.1))) (fun q => absurd rfl q)
      refine b_Mo_closes_221 hg (wm_isSign hg h.1) (fun v Y1 hv => ?_)
      rw [hv.1, hv.2]
      by_cases z : tk b t p = 41
      · rw [if_pos (S41.mpr z)]
        refine b_Mo_closes_227 (fun q => absurd q (by decide)) (fun _ => b_Mo_closes_230 (fun q => clo (Or.inl ⟨z, Or.inl q⟩)) (fun q5 => b_Mo_closes_235 (fun q => clo (Or.inl ⟨z, Or.inr (Or.inl q)⟩)) (fun q7 => b_Mo_closes_241 (fun q => clo (Or.inl ⟨z, Or.inr (Or.inr (Or.inl q))⟩)) (fun q8 => b_Mo_closes_247 (fun q9 => k268 (fun x => x.2.elim q5 (fun x => x.elim q7 (fun x => x.elim q8 (fun x => q9 x.1))))) (fun q9 => b_Mo_closes_253 hin (fun q => clo (Or.inl ⟨z, Or.inr (Or.inr (Or.inr ⟨q9, by rw [e86] at q; exact q⟩))⟩)) (fun q => k268 (fun x => x.2.elim q5 (fun x => x.elim q7 (fun x => x.elim q8 (fun x => q (by rw [e86]; exact x.2)))))))))))
      · rw [if_neg (fun y => z (S41.mp y))]
        exact b_Mo_closes_227 (fun _ => k268 (fun x => z x.1)) (fun q => absurd rfl q)
    have k116 : ¬ (tk b t p = 58 ∧ Y.1 83 (m - 1) = 3) → zW l Gr (zc n w) 168 M_Mo_closes (d + 3) 116 [some (.ref 105), some (.int 0), some (.int x2), some (.int (Y.1 83 (m - 1))), none, none, none] [] Y Q := fun y1 => by
      refine b_Mo_closes_116 hg (wm_isSign hg h.1) (fun v Y1 hv => ?_)
      rw [hv.1, hv.2]
      by_cases z : tk b t p = 44
      · rw [if_pos (S44.mpr z)]
        have k135 : ¬ (Y.1 83 (m - 1) = 7 ∧ x2 = 0) → zW l Gr (zc n w) 168 M_Mo_closes (d + 3) 135 [some (.ref 105), some (.int 0), some (.int x2), some (.int (Y.1 83 (m - 1))), none, none, none] [] Y Q := fun y2 =>
          b_Mo_closes_135 (fun q => k221 y1 (fun x => x.2.elim y2 (fun x => q x.1))) (fun q => b_Mo_closes_141 hin (fun q2 => k221 y1 (fun x => x.2.elim y2 (fun x => q2 (by rw [e86]; exact x.2)))) (fun q2 => kcom z (Or.inr ⟨q, by rw [e86] at q2; exact q2⟩)))
        exact b_Mo_closes_122 (fun q => absurd q (by decide)) (fun _ => b_Mo_closes_125 (fun q => k135 (fun x => q x.1)) (fun q => b_Mo_closes_131 (fun q2 => kcom z (Or.inl ⟨q, q2⟩)) (fun q2 => k135 (fun x => q2 x.2))))
      · rw [if_neg (fun y => z (S44.mp y))]
        exact b_Mo_closes_122 (fun _ => k221 y1 (fun x => z x.1)) (fun q => absurd rfl q)
    by_cases z : tk b t p = 58
    · rw [if_pos (S58.mpr z)]
      refine b_Mo_closes_79 (fun q => absurd q (by decide)) (fun _ => b_Mo_closes_82 (fun q => k116 (fun x => q x.2)) (fun q => b_Mo_closes_87 hin ?_))
      have := kcol z q
      rw [e, nI_clamp (by omega), h.1.2.2.1, nI_1]
      exact this
    · rw [if_neg (fun y => z (S58.mp y))]
      exact b_Mo_closes_79 (fun _ => k116 (fun x => z x.1)) (fun q => absurd rfl q)
  · rw [h.2.2.2.2.1] at y
    exact absurd ((nI_eq (a := m) (b := 0) (by omega) (by omega)).mp y) (by omega)
/-- a , between two EXPRs -/
theorem cl_com (hg : ip_gk (lg_tbl, vwCl, Gr)) {k : Int32} (h : MC b t p j dp m N Y) (hm : 0 < m) (h3 : m ≤ 4100) (hj : j < 12000) (hk : k = 7 ∨ k = 9) (kk : Q (some (.int 1)) (zi (zi (zi (mP Y j 16 (if k = 7 then Y.1 84 (m - 1) else -1) 0 (nI p)) 86 (m - 1) (Y.1 86 (m - 1) + 1)) 73 6 (nI (p + 1))) 73 25 1)) : zW l Gr (zc n w) 168 M_Mo_closes (d + 3) 155 [some (.ref 105), none, none, some (.int k), none, none, none] [] Y Q := by
  have e : Y.1 73 20 - 1 = nI (m - 1) := by rw [h.2.2.2.2.1]; exact pk_sub (a := m) (b := 1) (by omega)
  have hin : vp_in (Y.1 73 20 - 1) 4100 := by rw [e]; exact vp_in_nI (by omega) (by omega)
  have last : ∀ x : Int32, x = (if k = 7 then Y.1 84 (m - 1) else -1) → zW l Gr (zc n w) 168 M_Mo_closes (d + 3) 179 [some (.ref 105), none, none, none, none, none, none] [.int x, .int 16, .ref 105] Y Q := fun x ex => by
    rw [ex]
    refine b_Mo_closes_179 hg (wm_put h.2.2.1 hj) (fun v Y1 hv => ?_)
    rw [hv.2, h.1.2.2.1]
    have h2 := MC_mP (x1 := 16) (x2 := if k = 7 then Y.1 84 (m - 1) else -1) (x3 := 0) (x4 := nI p) h
    have e2 : (mP Y j 16 (if k = 7 then Y.1 84 (m - 1) else -1) 0 (nI p)).1 73 20 - 1 = nI (m - 1) := by rw [h2.2.2.2.2.1]; exact pk_sub (a := m) (b := 1) (by omega)
    refine b_Mo_closes_187 (by rw [e2]; exact vp_in_nI (by omega) (by omega)) ?_
    rw [e2, nI_clamp (by omega), h2.1.2.2.1, nI_1, mP_c (by decide)]
    exact kk
  rcases hk with rfl | rfl
  · refine b_Mo_closes_155 (fun y => absurd rfl y) (fun _ => b_Mo_closes_164 hin (last _ ?_))
    rw [e, nI_clamp (by omega), if_pos rfl]
  · exact b_Mo_closes_155 (fun _ => b_Mo_closes_178 (last _ (by rw [if_neg (by decide)]))) (fun y => absurd y (by decide))
/-- the store with the sign taken and the top away -/
def mTk (Y : zS) (p dp m : Nat) : zS := zi (zi (zi Y 73 6 (nI (p + 1))) 73 20 (nI (m - 1))) 73 19 (nI (dp - 1))
theorem MC_mTk (h : MC b t p j dp m N Y) (hp : p < t) : MC b t (p + 1) j (dp - 1) (m - 1) N (mTk Y p dp m) := MC_dp (MC_m (MC_at h (by omega)))
theorem mTk_c {c k : Nat} {Y : zS} (h : c ≠ 73) : (mTk Y p dp m).1 c k = Y.1 c k := by
  unfold mTk
  rw [zi_c h, zi_c h, zi_c h]
theorem cl_306 (hg : ip_gk (lg_tbl, vwCl, Gr)) {k x2 : Int32} (h : MC b t p j dp m N Y) (hpt : p < t) (hm : 0 < m) (hd : 0 < dp) (hd1 : dp ≤ 100) (h3 : m ≤ 4100)
    (k5 : k = 5 → zW l Gr (zc n w) 168 M_Mo_closes (d + 3) 355 [some (.ref 105), some (.int 0), none, none, none, some (.int (Y.1 85 (m - 1))), none] [] (mTk Y p dp m) Q)
    (k6 : k = 6 → zW l Gr (zc n w) 168 M_Mo_closes (d + 3) 376 [some (.ref 105), some (.int 0), none, none, none, some (.int (Y.1 85 (m - 1))), none] [] (mTk Y p dp m) Q)
    (k7 : k = 7 → zW l Gr (zc n w) 168 M_Mo_closes (d + 3) 405 [some (.ref 105), some (.int 0), some (.int x2), none, none, some (.int (Y.1 85 (m - 1))), none] [] (mTk Y p dp m) Q)
    (k8 : k = 8 → zW l Gr (zc n w) 168 M_Mo_closes (d + 3) 506 [some (.ref 105), some (.int 0), none, none, none, some (.int (Y.1 85 (m - 1))), none] [.int 10, .ref 105] (mTk Y p dp m) Q)
    (k9 : ¬ k = 5 → ¬ k = 6 → ¬ k = 7 → ¬ k = 8 → zW l Gr (zc n w) 168 M_Mo_closes (d + 3) 506 [some (.ref 105), some (.int 0), none, none, none, some (.int (Y.1 85 (m - 1))), none] [.int 11, .ref 105] (mTk Y p dp m) Q) :
    zW l Gr (zc n w) 168 M_Mo_closes (d + 3) 306 [some (.ref 105), some (.int 0), some (.int x2), some (.int k), none, none, none] [] Y Q := by
  have e : Y.1 73 20 - 1 = nI (m - 1) := by rw [h.2.2.2.2.1]; exact pk_sub (a := m) (b := 1) (by omega)
  have e' : Y.1 73 19 - 1 = nI (dp - 1) := by rw [h.2.2.2.1]; exact pk_sub (a := dp) (b := 1) (by omega)
  have e6 : Y.1 73 6 + 1 = nI (p + 1) := by rw [h.1.2.2.1, nI_1]
  have hin : vp_in (Y.1 73 20 - 1) 4100 := by rw [e]; exact vp_in_nI (by omega) (by omega)
  have e85 : Y.1 85 ((Y.1 73 20 - 1).toNatClampNeg) = Y.1 85 (m - 1) := by rw [e, nI_clamp (by omega)]
  refine b_Mo_closes_306 hin (fun q5 => ?_) (fun q5 => ?_)
  · rw [e85, e, e', e6]
    exact b_Mo_closes_370 (fun q6 => b_Mo_closes_399 (fun q7 => b_Mo_closes_492 (fun q8 => b_Mo_closes_504 (k9 q5 q6 q7 q8)) (fun q8 => b_Mo_closes_499 (k8 q8))) (fun q7 => k7 q7)) (fun q6 => k6 q6)
  · rw [e85, e, e', e6]
    exact k5 q5
theorem cl_sg (hg : ip_gk (lg_tbl, vwCl, Gr)) {u : Nat} (h : MC b t p j dp m N Y) (h1 : u ≤ m) (h2 : u ≤ dp) (h3 : m ≤ 4100) (h4 : dp ≤ 100) (h5 : j + u ≤ 12000) (hu : ∀ k, k < u → Y.1 83 (m - 1 - k) = 2) (hb : u = m ∨ ¬ Y.1 83 (m - 1 - u) = 2) (kk : Q (some (.int 1)) (mSg u Y j dp m)) : zW l Gr (zc n w) 168 M_Mo_closes (d + 3) 515 [some (.ref 105), some (.int 0), none, none, none, none, none] [] Y Q := by
  refine b_Mo_closes_515 hg (wm_signsOver hg h1 h2 h3 h4 h5 h.2.2.1 h.2.2.2.1 h.2.2.2.2.1 hu hb) (fun Y1 e1 => b_Mo_closes_520 ?_)
  rw [e1]
  exact kk
end CL
