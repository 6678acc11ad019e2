/-! SORTS of one EXPR on both sides: states and keeps -/
def LX (b : Nat → Int32) (t N D m f : Nat) (A : Nat → Nat → Prop) (tp mp c sz mz : Nat) (S T : zS) : Prop := EV b t N D m f A S T ∧ (S.1 3 4 = nI sz ∧ sz ≤ 4000 ∧ S.1 3 5 = 0) ∧ S.1 39 3 = nI tp ∧ (T.1 73 13 = nI mz ∧ mz ≤ 12000 ∧ T.1 73 7 = 0) ∧ T.1 73 43 = nI mp ∧ T.1 73 56 = nI c
/-- what an EXPR's instructions leave as it is -/
def KKc (S S' : zS) (i i' tp : Nat) : Prop := (∀ c k, ¬ (c = 3 ∧ (k = 5 ∨ k = 6)) → ¬ ((c = 5 ∨ c = 7) ∧ i ≤ k ∧ k < i') → ¬ (c = 39 ∧ k = 3) → ¬ (c = 40 ∧ tp ≤ k) → S'.1 c k = S.1 c k) ∧ ∀ c k, S'.2 c k = S.2 c k
def KKm (T T' : zS) (j j' mp c : Nat) : Prop := (∀ c' k, ¬ (c' = 73 ∧ (k = 7 ∨ k = 8 ∨ k = 43 ∨ k = 56)) → ¬ ((c' = 98 ∨ c' = 99 ∨ c' = 100) ∧ mp ≤ k) → ¬ ((c' = 80 ∨ (102 ≤ c' ∧ c' ≤ 107)) ∧ j ≤ k ∧ k < j') → ¬ ((c' = 108 ∨ c' = 109) ∧ c ≤ k) → T'.1 c' k = T.1 c' k) ∧ ∀ c' k, T'.2 c' k = T.2 c' k
/-- an EXPR's SORT, whether it is public and where it begins, on both sides -/
def PT (w D : Nat) (A : Nat → Nat → Prop) (S T : zS) (tp mp p i i' j j' : Nat) : Prop := ∃ r pb, r ≤ 1 ∧ pb ≤ 1 ∧ S.1 40 tp = nI (r + 2 * pb) ∧ T.1 98 mp = nI r ∧ T.1 100 mp = nI pb ∧ T.1 99 mp = nI p ∧ aX w D A r S T i i' j j' ∧ (pb = 1 → PB T j j')
/-- both tell the same FAULT -/
def FLT (l : Launch) (Gr : zG) (n w d : Nat) (b : Nat → Int32) (t : Nat) (S T : zS) (i i' j : Nat) : Prop := ∃ g pl S' T' u j1, i < u ∧ u ≤ i' ∧ fz g ∧ CG l Gr n w d S i S' u ∧ S' = kR b t (u - i) i S ∧ S'.1 3 5 = g ∧ S'.1 3 6 = pl ∧ RG l Gr n w d T j T' j1 ∧ T'.1 73 7 = g ∧ T'.1 73 8 = pl
def EXO (l : Launch) (Gr : zG) (n w d : Nat) (b : Nat → Int32) (t N D m f : Nat) (A : Nat → Nat → Prop) (tp mp c sz mz : Nat) (S T : zS) (p i i' j j' : Nat) : Prop := (∃ S' T', CG l Gr n w d S i S' i' ∧ S' = kR b t (i' - i) i S ∧ RG l Gr n w d T j T' j' ∧ LX b t N D m f A (tp + 1) (mp + 1) c sz mz S' T' ∧ KKc S S' i i' tp ∧ KKm T T' j j' mp c ∧ PT w D A S' T' tp mp p i i' j j') ∨ FLT l Gr n w d b t S T i i' j
section LXs
variable {l : Launch} {Gr : zG} {n w : Nat} {d : Nat} {A : Nat → Nat → Prop} {b : Nat → Int32} {t N D m f tp mp c sz mz p i i' j j' x : Nat} {S S' S'' T T' T'' : zS}
theorem KKc_rfl : KKc S S i i' tp := ⟨fun _ _ _ _ _ _ => rfl, fun _ _ => rfl⟩
theorem KKm_rfl : KKm T T j j' mp c := ⟨fun _ _ _ _ _ _ => rfl, fun _ _ => rfl⟩
theorem KKc_tr {i1 i2 tp1 : Nat} (h1 : KKc S S' i i1 tp) (h2 : KKc S' S'' i2 i' tp1) (a1 : i1 ≤ i') (a2 : i ≤ i2) (a3 : tp ≤ tp1) : KKc S S'' i i' tp :=
  ⟨fun c k q1 q2 q3 q4 => (h2.1 c k q1 (by omega) q3 (by omega)).trans (h1.1 c k q1 (by omega) q3 q4), fun c k => (h2.2 c k).trans (h1.2 c k)⟩
theorem KKm_tr {j1 j2 mp1 c1 : Nat} (h1 : KKm T T' j j1 mp c) (h2 : KKm T' T'' j2 j' mp1 c1) (a1 : j1 ≤ j') (a2 : j ≤ j2) (a3 : mp ≤ mp1) (a4 : c ≤ c1) : KKm T T'' j j' mp c :=
  ⟨fun c' k q1 q2 q3 q4 => (h2.1 c' k q1 (by omega) (by omega) (by omega)).trans (h1.1 c' k q1 q2 (by omega) q4), fun c' k => (h2.2 c' k).trans (h1.2 c' k)⟩
theorem nid_k (h : nid b t T x p) (h9 : T'.1 73 9 = T.1 73 9) (h76 : ∀ k, T'.1 76 k = T.1 76 k) : nid b t T' x p := by
  obtain ⟨N, a, e1, e2, e3, e4, e5, e6⟩ := h
  exact ⟨N, a, h9.trans e1, e2, e3, e4, (h76 x).trans e5, e6⟩
theorem EV_k (h : EV b t N D m f A S T) (hS : KKc S S' i i' tp) (hT : KKm T T' j j' mp c) : EV b t N D m f A S' T' := by
  obtain ⟨⟨t1, t2, t3, t4, t5⟩, ⟨v1, v2, v3, v4, v5⟩, h34, hO, hN, hD, hA⟩ := h
  have s : ∀ c k, ¬ c = 3 → ¬ c = 5 → ¬ c = 7 → ¬ c = 39 → ¬ c = 40 → S'.1 c k = S.1 c k := fun c k a1 a2 a3 a4 a5 => hS.1 c k (by omega) (by omega) (by omega) (by omega)
  have u : ∀ c' k, ¬ c' = 73 → ¬ (98 ≤ c' ∧ c' ≤ 109) → ¬ c' = 80 → T'.1 c' k = T.1 c' k := fun c' k a1 a2 a3 => hT.1 c' k (by omega) (by omega) (by omega) (by omega)
  have u7 : ∀ k, ¬ k = 7 → ¬ k = 8 → ¬ k = 43 → ¬ k = 56 → T'.1 73 k = T.1 73 k := fun k a1 a2 a3 a4 => hT.1 73 k (by omega) (by omega) (by omega) (by omega)
  refine ⟨⟨?_, t2, (s 8 1 (by omega) (by omega) (by omega) (by omega) (by omega)).trans t3, NS_k t4 (fun d _ => ⟨s 9 d (by omega) (by omega) (by omega) (by omega) (by omega), s 10 d (by omega) (by omega) (by omega) (by omega) (by omega)⟩), t5⟩, ⟨(s 8 11 (by omega) (by omega) (by omega) (by omega) (by omega)).trans v1, v2, (s 8 12 (by omega) (by omega) (by omega) (by omega) (by omega)).trans v3, v4, fun v hv => ?_⟩, (u7 34 (by omega) (by omega) (by omega) (by omega)).trans h34, ?_, hN, ?_, fun v hv => ?_⟩
  · rw [← t1]
    funext k
    exact s 2 k (by omega) (by omega) (by omega) (by omega) (by omega)
  · rw [s 16 v (by omega) (by omega) (by omega) (by omega) (by omega)]
    exact v5 v hv
  · refine ⟨(u7 9 (by omega) (by omega) (by omega) (by omega)).trans hO.1, fun v hv => ?_, fun v v' a a' q1 q2 q3 q4 q5 q6 q7 => ?_⟩
    · rw [u 76 v (by omega) (by omega) (by omega), u 77 v (by omega) (by omega) (by omega)]
      exact hO.2.1 v hv
    · rw [u 76 v (by omega) (by omega) (by omega)] at q5
      rw [u 76 v' (by omega) (by omega) (by omega)] at q6
      exact hO.2.2 v v' a a' q1 q2 q3 q4 q5 q6 q7
  · rcases hD with ⟨f0, i0⟩ | ⟨i1, hq⟩
    · exact Or.inl ⟨f0, (u7 47 (by omega) (by omega) (by omega) (by omega)).trans i0⟩
    · refine Or.inr ⟨(u7 47 (by omega) (by omega) (by omega) (by omega)).trans i1, fun v d q1 q2 q3 => ?_⟩
      rw [s 16 v (by omega) (by omega) (by omega) (by omega) (by omega)] at q2
      rw [s 11 d (by omega) (by omega) (by omega) (by omega) (by omega)]
      exact hq v d q1 q2 q3
  · obtain ⟨⟨dd, sp, y, k, e1, e2, e3, e4, e5, e6, e7, e8, e9, e10, e11, e12, e13, ⟨a0, l0, e15, e17, e16⟩, e14⟩, h95⟩ := hA v hv
    refine ⟨⟨dd, sp, y, k, e1, (s 16 v (by omega) (by omega) (by omega) (by omega) (by omega)).trans e2, e3, (s 9 dd (by omega) (by omega) (by omega) (by omega) (by omega)).trans e4, nid_k e5 (u7 9 (by omega) (by omega) (by omega) (by omega)) (fun k => u 76 k (by omega) (by omega) (by omega)), (u 90 v (by omega) (by omega) (by omega)).trans e6, e7, (s 11 dd (by omega) (by omega) (by omega) (by omega) (by omega)).trans e8, (u 91 v (by omega) (by omega) (by omega)).trans e9, ?_, ?_, ?_, ?_, ⟨a0, l0, (u 94 v (by omega) (by omega) (by omega)).trans e15, fun y => e17 (y.imp (fun y => (u7 47 (by omega) (by omega) (by omega) (by omega)).symm.trans y) id), fun q => (s 14 dd (by omega) (by omega) (by omega) (by omega) (by omega)).trans (e16 q)⟩, fun hk => ?_⟩, ?_⟩
    · rw [u 92 v (by omega) (by omega) (by omega), s 12 dd (by omega) (by omega) (by omega) (by omega) (by omega)]; exact e10
    · rw [u 93 v (by omega) (by omega) (by omega), s 13 dd (by omega) (by omega) (by omega) (by omega) (by omega)]; exact e11
    · rw [s 12 dd (by omega) (by omega) (by omega) (by omega) (by omega)]; exact e12
    · rw [s 13 dd (by omega) (by omega) (by omega) (by omega) (by omega)]; exact e13
    · obtain ⟨a, q, g1, g2, g3, g4, g5, g6⟩ := e14 hk
      refine ⟨a, q, (s 15 dd (by omega) (by omega) (by omega) (by omega) (by omega)).trans g1, (u 97 v (by omega) (by omega) (by omega)).trans g2, (u 96 v (by omega) (by omega) (by omega)).trans g3, ⟨g4.1, by rw [u7 60 (by omega) (by omega) (by omega) (by omega)]; exact g4.2⟩, g5, fun e he => ?_⟩
      rw [u 110 (q + e) (by omega) (by omega) (by omega), s 12 (dd + 1 + e) (by omega) (by omega) (by omega) (by omega) (by omega)]
      exact g6 e he
    · rw [u 95 v (by omega) (by omega) (by omega)]; exact h95
theorem anS_k {i1 i2 tq : Nat} (hS : KKc S S' i1 i2 tq) (h : i' ≤ i1 ∨ i2 ≤ i) : anS S S' i i' := fun c k q => hS.1 c k (by omega) (by omega) (by omega) (by omega)
theorem anT_k {j1 j2 mq cq : Nat} (hT : KKm T T' j1 j2 mq cq) (h : j' ≤ j1 ∨ j2 ≤ j) : anT T T' j j' := ⟨fun c' k q => hT.1 c' k (by omega) (by omega) (by omega) (by omega), fun k => hT.2 82 k⟩
/-- only the stacks have changed -/
theorem anS_0 (h : ∀ c k, ¬ c = 39 → ¬ c = 40 → ¬ c = 3 → S'.1 c k = S.1 c k) : anS S S' i i' := fun c k q => h c k (by omega) (by omega) (by omega)
end LXs
