/-! the reference's SORTS: PARAMs, and operators once more -/
def mDup (T : zS) (j F M : Nat) : Prop := (∃ u, F ≤ u ∧ u < M ∧ T.1 90 u = T.1 79 j) ∨ ∃ u, u < F ∧ ¬ T.1 95 u = 0 ∧ T.1 91 u = 5 ∧ T.1 90 u = T.1 79 j
section MKC
variable {l : Launch} {Gr : zG} {n w : Nat} {d : Nat} {m m0 M s j mz c q F P dP : Nat} {T T' X : zS} {v r p pb : Int32}
theorem wm_par (hg : ip_gk (lg_tbl, vwCl, Gr)) (h7 : T.1 73 7 = 0) (hj : j < 12000) (h34 : T.1 73 34 = nI M) (hM : M < 2500) (h62 : T.1 73 62 = nI F) (hF : F ≤ M) (h60 : T.1 73 60 = nI P) (hP : P < 1000) (h61 : T.1 73 61 = nI dP) (hdP : dP ≤ P) : zMv l Gr (zc n w) 168 M_Mo_paramSort (d + 2) [.ref 105, .int (nI j)] T (fun T' => (mDup T j F M ∧ T' = mF T 4 (T.1 81 j)) ∨ (¬ mDup T j F M ∧ T' = zi (mSy (zi (zi T 110 P (T.1 80 j)) 73 60 (nI (P + 1))) M (T.1 79 j) 4 (T.1 80 j) 0 (nI (P - dP))) 95 M 0)) := by
  have hin : vp_in (nI j) 12000 := vp_in_nI hj (by omega)
  have ec : (nI j).toNatClampNeg = j := nI_clamp (by omega)
  obtain ⟨QQ, eQ⟩ : ∃ QQ : zS → Prop, QQ = fun T' => (mDup T j F M ∧ T' = mF T 4 (T.1 81 j)) ∨ (¬ mDup T j F M ∧ T' = zi (mSy (zi (zi T 110 P (T.1 80 j)) 73 60 (nI (P + 1))) M (T.1 79 j) 4 (T.1 80 j) 0 (nI (P - dP))) 95 M 0) := ⟨_, rfl⟩
  rw [← eQ]
  have k121 : mDup T j F M → zW l Gr (zc n w) 168 M_Mo_paramSort (d + 2) 121 [some (.ref 105), some (.int (nI j)), none, none, none] [] T (fun v T' => v = none ∧ QQ T') := fun hd =>
    b_Mo_paramSort_121 hg hin (wm_fail h7) (fun A eA => b_Mo_paramSort_132 ⟨rfl, by rw [eQ]; exact Or.inl ⟨hd, by rw [eA, ec]⟩⟩)
  have k133 : ¬ mDup T j F M → zW l Gr (zc n w) 168 M_Mo_paramSort (d + 2) 133 [some (.ref 105), some (.int (nI j)), none, none, none] [] T (fun v T' => v = none ∧ QQ T') := fun hd => by
    refine b_Mo_paramSort_133 (R := fun x T' => x = nI M ∧ T' = mSy (zi (zi T 110 P (T.1 80 j)) 73 60 (nI (P + 1))) M (T.1 79 j) 4 (T.1 80 j) 0 (nI (P - dP))) hg hin (by rw [h60]; exact vp_in_nI hP (by omega)) ?_ (fun x A hA => ?_)
    · rw [ec, h60, nI_1, nI_pred, h61, pk_sub hdP, nI_clamp (n := P) (by omega)]
      exact wm_sym (by rw [zi_k (by decide), zi_c (by decide)]; exact h34) hM
    · rw [hA.1, hA.2]
      refine b_Mo_paramSort_187 (vp_in_nI hM (by omega)) ⟨rfl, ?_⟩
      rw [eQ, nI_clamp (by omega)]
      exact Or.inr ⟨hd, rfl⟩
  have loop2 : ∀ (x2 : Int32), (x2 = 0 ↔ ∀ u, F ≤ u → u < M → ¬ T.1 90 u = T.1 79 j) → ∀ (k s : Nat) (x3 : Int32), s + k = F → (x3 = 0 ↔ ∀ u, u < s → ¬ (¬ T.1 95 u = 0 ∧ T.1 91 u = 5 ∧ T.1 90 u = T.1 79 j)) → zW l Gr (zc n w) 168 M_Mo_paramSort (d + 2) 51 [some (.ref 105), some (.int (nI j)), some (.int x2), some (.int x3), some (.int (nI s))] [] T (fun v T' => v = none ∧ QQ T') := fun x2 hx2 k => by
    induction k with
    | zero =>
      intro s x3 hs hx3
      have e : s = F := by omega
      subst e
      refine b_Mo_paramSort_51 (fun _ => b_Mo_paramSort_113 (fun z => k121 (Or.inl ?_)) (fun z => b_Mo_paramSort_117 (fun z2 => k133 (fun q => ?_)) (fun z2 => k121 (Or.inr ?_)))) (fun z => absurd (by rw [h62]; exact nI_le (Nat.le_refl _) (by omega)) z)
      · refine Classical.byContradiction (fun q => z (hx2.mpr (fun u a1 a2 a3 => q ⟨u, a1, a2, a3⟩)))
      · rcases q with ⟨u, a1, a2, a3⟩ | ⟨u, a1, a2⟩
        · exact hx2.mp z u a1 a2 a3
        · exact hx3.mp z2 u a1 a2
      · refine Classical.byContradiction (fun q => z2 (hx3.mpr (fun u a1 a2 => q ⟨u, a1, a2⟩)))
    | succ k ih =>
      intro s x3 hs hx3
      have hsn : vp_in (nI s) 2500 := vp_in_nI (by omega) (by omega)
      have cs : (nI s).toNatClampNeg = s := nI_clamp (by omega)
      have nx : ∀ x : Int32, (x = 0 ↔ ∀ u, u < s + 1 → ¬ (¬ T.1 95 u = 0 ∧ T.1 91 u = 5 ∧ T.1 90 u = T.1 79 j)) → zW l Gr (zc n w) 168 M_Mo_paramSort (d + 2) 106 [some (.ref 105), some (.int (nI j)), some (.int x2), none, some (.int (nI s))] [.int x] T (fun v T' => v = none ∧ QQ T') := fun x hx => by
        refine b_Mo_paramSort_106 ?_
        rw [show nI s + Int32.ofInt 1 = nI (s + 1) from nI_1 s]
        exact ih (s + 1) x (by omega) hx
      refine b_Mo_paramSort_51 (fun z => by rw [h62] at z; exact absurd z (nI_ge (by omega) (by omega))) (fun _ => b_Mo_paramSort_60 (fun z => b_Mo_paramSort_101 (nx 1 ?_)) (fun z => ?_))
      · exact ⟨fun y => absurd y (by decide), fun y => absurd (hx3.mpr (fun u hu => y u (by omega))) z⟩
      · have no : ¬ (¬ T.1 95 s = 0 ∧ T.1 91 s = 5 ∧ T.1 90 s = T.1 79 j) → zW l Gr (zc n w) 168 M_Mo_paramSort (d + 2) 105 [some (.ref 105), some (.int (nI j)), some (.int x2), none, some (.int (nI s))] [] T (fun v T' => v = none ∧ QQ T') := fun hn =>
          b_Mo_paramSort_105 (nx 0 ⟨fun _ u hu => by
            by_cases y : u = s
            · rw [y]; exact hn
            · exact hx3.mp z u (by omega), fun _ => rfl⟩)
        refine b_Mo_paramSort_64 hsn (fun y => no (fun q => q.1 ?_)) (fun y => b_Mo_paramSort_74 hsn (fun y2 => no (fun q => y2 ?_)) (fun y2 => b_Mo_paramSort_85 hsn hin (fun y3 => no (fun q => y3 ?_)) (fun y3 => b_Mo_paramSort_101 (nx 1 ⟨fun q => absurd q (by decide), fun q => absurd ?_ (q s (by omega))⟩))))
        · rw [cs] at y; exact y
        · rw [cs]; exact q.2.1
        · rw [cs, ec]; exact q.2.2
        · rw [cs] at y y2 y3
          rw [ec] at y3
          exact ⟨y, y2, y3⟩
  have loop1 : ∀ (k s : Nat) (x2 : Int32), s + k = M → F ≤ s → (x2 = 0 ↔ ∀ u, F ≤ u → u < s → ¬ T.1 90 u = T.1 79 j) → zW l Gr (zc n w) 168 M_Mo_paramSort (d + 2) 7 [some (.ref 105), some (.int (nI j)), some (.int x2), some (.int (nI s)), none] [] T (fun v T' => v = none ∧ QQ T') := fun k => by
    induction k with
    | zero =>
      intro s x2 hs hFs hx2
      have e : s = M := by omega
      subst e
      refine b_Mo_paramSort_7 (fun _ => b_Mo_paramSort_46 (loop2 x2 hx2 F 0 0 (by omega) ⟨fun _ u hu => absurd hu (Nat.not_lt_zero u), fun _ => rfl⟩)) (fun z => absurd (by rw [h34]; exact nI_le (Nat.le_refl _) (by omega)) z)
    | succ k ih =>
      intro s x2 hs hFs hx2
      have hsn : vp_in (nI s) 2500 := vp_in_nI (by omega) (by omega)
      have cs : (nI s).toNatClampNeg = s := nI_clamp (by omega)
      have nx : ∀ x : Int32, (x = 0 ↔ ∀ u, F ≤ u → u < s + 1 → ¬ T.1 90 u = T.1 79 j) → zW l Gr (zc n w) 168 M_Mo_paramSort (d + 2) 39 [some (.ref 105), some (.int (nI j)), none, some (.int (nI s)), none] [.int x] T (fun v T' => v = none ∧ QQ T') := fun x hx => by
        refine b_Mo_paramSort_39 ?_
        rw [show nI s + Int32.ofInt 1 = nI (s + 1) from nI_1 s]
        exact ih (s + 1) x (by omega) (by omega) hx
      refine b_Mo_paramSort_7 (fun z => by rw [h34] at z; exact absurd z (nI_ge (by omega) (by omega))) (fun _ => b_Mo_paramSort_15 (fun z => b_Mo_paramSort_34 (nx 1 ?_)) (fun z => b_Mo_paramSort_19 hsn hin (fun y => b_Mo_paramSort_38 (nx 0 ?_)) (fun y => b_Mo_paramSort_34 (nx 1 ?_))))
      · exact ⟨fun y => absurd y (by decide), fun y => absurd (hx2.mpr (fun u a1 a2 => y u a1 (by omega))) z⟩
      · rw [cs, ec] at y
        refine ⟨fun _ u a1 a2 => ?_, fun _ => rfl⟩
        by_cases e : u = s
        · rw [e]; exact y
        · exact hx2.mp z u a1 (by omega)
      · rw [cs, ec] at y
        exact ⟨fun q => absurd q (by decide), fun q => absurd y (q s hFs (by omega))⟩
  refine e_Mo_paramSort (b_Mo_paramSort_0 ?_)
  rw [h62]
  exact loop1 (M - F) F 0 (by omega) (Nat.le_refl _) ⟨fun _ u a1 a2 => absurd a2 (by omega), fun _ => rfl⟩
end MKC
