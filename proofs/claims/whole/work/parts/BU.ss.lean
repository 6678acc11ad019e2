/-! SORTS of statements on both sides: states and keeps -/
def BDS (S : zS) (u lo hi : Nat) : Prop := (u = 0 ∧ lo = 0 ∧ hi = 256) ∨ ∃ u', u = u' + 1 ∧ S.1 43 u' = nI lo ∧ S.1 44 u' = nI hi ∧ lo ≤ 256 ∧ hi ≤ 256
def VSA (S : zS) (A : Nat → Nat → Prop) (m vw : Nat) : Prop := ((∀ v v', v < m → v' < m → S.1 16 v = S.1 16 v' → v = v') ∧ ∀ v, v < m → ¬ S.1 11 (S.1 16 v).toNatClampNeg = 3) ∧ ∀ d a, A d a → (∃ v, v < m ∧ S.1 16 v = nI d) ∧ (S.1 11 d = 1 → ∃ z, z ≤ 64 ∧ S.1 13 d = nI z ∧ a + max 1 z ≤ vw)
/-- sc open BLOCKs, u open ifs, vw words of vars so far, the innermost if's words from lo to hi -/
def LSt (b : Nat → Int32) (t N D m : Nat) (A : Nat → Nat → Prop) (tp mp sz mz sc u vw lo hi : Nat) (S T : zS) : Prop := LX b t N D m 0 A tp mp 0 sz mz S T ∧ T.1 73 47 = 0 ∧ (S.1 39 5 = nI sc ∧ T.1 73 49 = nI sc) ∧ (S.1 39 9 = nI u ∧ u ≤ sc) ∧ (S.1 39 10 = nI vw ∧ vw ≤ 256) ∧ BDS S u lo hi ∧ VSA S A m vw
/-- what a statement's instructions leave as it is -/
def KSc (S S' : zS) (i i' m sc u : Nat) : Prop := (∀ c k, ¬ (c = 3 ∧ (k = 5 ∨ k = 6)) → ¬ ((c = 5 ∨ c = 7) ∧ i ≤ k ∧ k < i') → ¬ (c = 8 ∧ k = 11) → ¬ (c = 16 ∧ m ≤ k) → ¬ (c = 39 ∧ (k = 3 ∨ k = 5 ∨ k = 9 ∨ k = 10)) → ¬ c = 40 → ¬ (c = 41 ∧ sc ≤ k) → ¬ (c = 42 ∧ u ≤ k) → ¬ ((c = 43 ∨ c = 44) ∧ u ≤ k + 1) → S'.1 c k = S.1 c k) ∧ ∀ c k, S'.2 c k = S.2 c k
def KSm (T T' : zS) (j j' m sc : Nat) : Prop := (∀ c k, ¬ (c = 73 ∧ (k = 7 ∨ k = 8 ∨ k = 34 ∨ k = 43 ∨ k = 49 ∨ k = 56)) → ¬ (98 ≤ c ∧ c ≤ 100) → ¬ (c = 101 ∧ sc ≤ k) → ¬ ((c = 80 ∨ (102 ≤ c ∧ c ≤ 107)) ∧ j ≤ k ∧ k < j') → ¬ ((90 ≤ c ∧ c ≤ 97) ∧ m ≤ k) → ¬ (c = 108 ∨ c = 109) → T'.1 c k = T.1 c k) ∧ ∀ c k, T'.2 c k = T.2 c k
section SST
variable {l : Launch} {Gr : zG} {n w : Nat} {d : Nat} {A : Nat → Nat → Prop} {b : Nat → Int32} {t N D m tp mp sz mz sc u vw lo hi p i i' j j' x : Nat} {S S' S'' T T' T'' : zS}
theorem KSc_rfl : KSc S S i i' m sc u := ⟨fun _ _ _ _ _ _ _ _ _ _ _ => rfl, fun _ _ => rfl⟩
theorem KSm_rfl : KSm T T j j' m sc := ⟨fun _ _ _ _ _ _ _ _ => rfl, fun _ _ => rfl⟩
theorem KSc_tr {i1 i2 m1 sc1 u1 : Nat} (h1 : KSc S S' i i1 m sc u) (h2 : KSc S' S'' i2 i' m1 sc1 u1) (a1 : i1 ≤ i') (a2 : i ≤ i2) (a3 : m ≤ m1) (a4 : sc ≤ sc1) (a5 : u ≤ u1) : KSc S S'' i i' m sc u :=
  ⟨fun c k q1 q2 q3 q4 q5 q6 q7 q8 q9 => (h2.1 c k q1 (by omega) q3 (by omega) q5 q6 (by omega) (by omega) (by omega)).trans (h1.1 c k q1 (by omega) q3 q4 q5 q6 q7 q8 q9), fun c k => (h2.2 c k).trans (h1.2 c k)⟩
theorem KSm_tr {j1 j2 m1 sc1 : Nat} (h1 : KSm T T' j j1 m sc) (h2 : KSm T' T'' j2 j' m1 sc1) (a1 : j1 ≤ j') (a2 : j ≤ j2) (a3 : m ≤ m1) (a4 : sc ≤ sc1) : KSm T T'' j j' m sc :=
  ⟨fun c k q1 q2 q3 q4 q5 q6 => (h2.1 c k q1 q2 (by omega) (by omega) (by omega) q6).trans (h1.1 c k q1 q2 q3 (by omega) q5 q6), fun c k => (h2.2 c k).trans (h1.2 c k)⟩
theorem KSc_x {i1 i2 tq : Nat} (h : KKc S S' i1 i2 tq) (a1 : i ≤ i1) (a2 : i2 ≤ i') : KSc S S' i i' m sc u := ⟨fun c k q1 q2 q3 q4 q5 q6 q7 q8 q9 => h.1 c k q1 (by omega) (by omega) (by omega), h.2⟩
theorem KSm_x {j1 j2 mq cq : Nat} (h : KKm T T' j1 j2 mq cq) (a1 : j ≤ j1) (a2 : j2 ≤ j') : KSm T T' j j' m sc := ⟨fun c k q1 q2 q3 q4 q5 q6 => h.1 c k (by omega) (by omega) (by omega) (by omega), h.2⟩
theorem KSc_zi {c k : Nat} {x : Int32} (h : (c = 3 ∧ (k = 5 ∨ k = 6)) ∨ ((c = 5 ∨ c = 7) ∧ i ≤ k ∧ k < i') ∨ (c = 8 ∧ k = 11) ∨ (c = 16 ∧ m ≤ k) ∨ (c = 39 ∧ (k = 3 ∨ k = 5 ∨ k = 9 ∨ k = 10)) ∨ c = 40 ∨ (c = 41 ∧ sc ≤ k) ∨ (c = 42 ∧ u ≤ k) ∨ ((c = 43 ∨ c = 44) ∧ u ≤ k + 1)) : KSc S (zi S c k x) i i' m sc u := ⟨fun c' k' q1 q2 q3 q4 q5 q6 q7 q8 q9 => by
  rw [zi_get, if_neg (fun e => ?_)]
  obtain ⟨rfl, rfl⟩ := e
  exact h.elim q1 (fun h => h.elim q2 (fun h => h.elim q3 (fun h => h.elim q4 (fun h => h.elim q5 (fun h => h.elim q6 (fun h => h.elim q7 (fun h => h.elim q8 q9))))))), fun _ _ => rfl⟩
theorem KSm_zi {c k : Nat} {x : Int32} (h : (c = 73 ∧ (k = 7 ∨ k = 8 ∨ k = 34 ∨ k = 43 ∨ k = 49 ∨ k = 56)) ∨ (98 ≤ c ∧ c ≤ 100) ∨ (c = 101 ∧ sc ≤ k) ∨ ((c = 80 ∨ (102 ≤ c ∧ c ≤ 107)) ∧ j ≤ k ∧ k < j') ∨ ((90 ≤ c ∧ c ≤ 97) ∧ m ≤ k) ∨ (c = 108 ∨ c = 109)) : KSm T (zi T c k x) j j' m sc := ⟨fun c' k' q1 q2 q3 q4 q5 q6 => by
  rw [zi_get, if_neg (fun e => ?_)]
  obtain ⟨rfl, rfl⟩ := e
  exact h.elim q1 (fun h => h.elim q2 (fun h => h.elim q3 (fun h => h.elim q4 (fun h => h.elim q5 q6)))), fun _ _ => rfl⟩
theorem KSc_t (h1 : KSc S S' i i' m sc u) (h2 : KSc S' S'' i i' m sc u) : KSc S S'' i i' m sc u := KSc_tr h1 h2 (Nat.le_refl _) (Nat.le_refl _) (Nat.le_refl _) (Nat.le_refl _) (Nat.le_refl _)
theorem KSm_t (h1 : KSm T T' j j' m sc) (h2 : KSm T' T'' j j' m sc) : KSm T T'' j j' m sc := KSm_tr h1 h2 (Nat.le_refl _) (Nat.le_refl _) (Nat.le_refl _) (Nat.le_refl _)
theorem KSc_w {i1 i2 m1 sc1 u1 : Nat} (h : KSc S S' i1 i2 m1 sc1 u1) (a1 : i ≤ i1) (a2 : i2 ≤ i') (a3 : m ≤ m1) (a4 : sc ≤ sc1) (a5 : u ≤ u1) : KSc S S' i i' m sc u := ⟨fun c k q1 q2 q3 q4 q5 q6 q7 q8 q9 => h.1 c k q1 (by omega) q3 (by omega) q5 q6 (by omega) (by omega) (by omega), h.2⟩
theorem KSm_w {j1 j2 m1 sc1 : Nat} (h : KSm T T' j1 j2 m1 sc1) (a1 : j ≤ j1) (a2 : j2 ≤ j') (a3 : m ≤ m1) (a4 : sc ≤ sc1) : KSm T T' j j' m sc := ⟨fun c k q1 q2 q3 q4 q5 q6 => h.1 c k q1 q2 (by omega) (by omega) (by omega) q6, h.2⟩
/-- what is visible stays so -/
theorem EV_s (h : EV b t N D m 0 A S T) (hS : KSc S S' i i' m sc u) (hT : KSm T T' j j' m sc) (e11 : S'.1 8 11 = nI m) (e34 : T'.1 73 34 = nI m) : EV b t N D m 0 A S' T' := by
  obtain ⟨⟨t1, t2, t3, t4, t5⟩, ⟨v1, v2, v3, v4, v5⟩, h34, hO, hN, hD, hA⟩ := h
  have s : ∀ c k, (c = 2 ∨ (c = 8 ∧ ¬ k = 11) ∨ (9 ≤ c ∧ c ≤ 15) ∨ (c = 16 ∧ k < m)) → S'.1 c k = S.1 c k := fun c k a => hS.1 c k (by omega) (by omega) (by omega) (by omega) (by omega) (by omega) (by omega) (by omega) (by omega)
  have q : ∀ c k, (c = 76 ∨ c = 77 ∨ c = 110 ∨ ((90 ≤ c ∧ c ≤ 97) ∧ k < m) ∨ (c = 73 ∧ (k = 9 ∨ k = 47 ∨ k = 60))) → T'.1 c k = T.1 c k := fun c k a => hT.1 c k (by omega) (by omega) (by omega) (by omega) (by omega) (by omega)
  refine ⟨⟨?_, t2, (s 8 1 (by omega)).trans t3, NS_k t4 (fun d _ => ⟨s 9 d (by omega), s 10 d (by omega)⟩), t5⟩, ⟨e11, v2, (s 8 12 (by omega)).trans v3, v4, fun v hv => ?_⟩, e34, ?_, hN, ?_, fun v hv => ?_⟩
  · rw [← t1]
    funext k
    exact s 2 k (by omega)
  · rw [s 16 v (by omega)]
    exact v5 v hv
  · refine ⟨(q 73 9 (by omega)).trans hO.1, fun v hv => ?_, fun v v' a a' q1 q2 q3 q4 q5 q6 q7 => ?_⟩
    · rw [q 76 v (by omega), q 77 v (by omega)]
      exact hO.2.1 v hv
    · rw [q 76 v (by omega)] at q5
      rw [q 76 v' (by omega)] at q6
      exact hO.2.2 v v' a a' q1 q2 q3 q4 q5 q6 q7
  · rcases hD with ⟨f0, i0⟩ | ⟨i1, hq⟩
    · exact Or.inl ⟨f0, (q 73 47 (by omega)).trans i0⟩
    · refine Or.inr ⟨(q 73 47 (by omega)).trans i1, fun v d q1 q2 q3 => ?_⟩
      rw [s 16 v (by omega)] at q2
      rw [s 11 d (by omega)]
      exact hq v d q1 q2 q3
  · obtain ⟨⟨dd, sp, y, k, e1, e2, e3, e4, e5, e6, e7, e8, e9, e10, e11, e12, e13, ⟨a0, l0, e15, e17, e16⟩, e14⟩, h95⟩ := hA v hv
    refine ⟨⟨dd, sp, y, k, e1, (s 16 v (by omega)).trans e2, e3, (s 9 dd (by omega)).trans e4, nid_k e5 (q 73 9 (by omega)) (fun k => q 76 k (by omega)), (q 90 v (by omega)).trans e6, e7, (s 11 dd (by omega)).trans e8, (q 91 v (by omega)).trans e9, ?_, ?_, ?_, ?_, ⟨a0, l0, (q 94 v (by omega)).trans e15, fun y => e17 (y.imp (fun y => (q 73 47 (by omega)).symm.trans y) id), fun y => (s 14 dd (by omega)).trans (e16 y)⟩, fun hk => ?_⟩, ?_⟩
    · rw [q 92 v (by omega), s 12 dd (by omega)]; exact e10
    · rw [q 93 v (by omega), s 13 dd (by omega)]; exact e11
    · rw [s 12 dd (by omega)]; exact e12
    · rw [s 13 dd (by omega)]; exact e13
    · obtain ⟨a, qq, g1, g2, g3, g4, g5, g6⟩ := e14 hk
      refine ⟨a, qq, (s 15 dd (by omega)).trans g1, (q 97 v (by omega)).trans g2, (q 96 v (by omega)).trans g3, ⟨g4.1, by rw [q 73 60 (by omega)]; exact g4.2⟩, g5, fun e he => ?_⟩
      rw [q 110 (qq + e) (by omega), s 12 (dd + 1 + e) (by omega)]
      exact g6 e he
    · rw [q 95 v (by omega)]; exact h95
theorem VSA_k {vw' : Nat} (h : VSA S A m vw) (h16 : ∀ v, v < m → S'.1 16 v = S.1 16 v) (h11 : ∀ e, S'.1 11 e = S.1 11 e ∧ S'.1 13 e = S.1 13 e) (hw : vw ≤ vw') : VSA S' A m vw' := by
  refine ⟨⟨fun v v' q1 q2 q3 => h.1.1 v v' q1 q2 (by rw [← h16 v q1, ← h16 v' q2]; exact q3), fun v q1 => by rw [h16 v q1, (h11 _).1]; exact h.1.2 v q1⟩, fun d a q => ?_⟩
  obtain ⟨⟨v, v1, v2⟩, v3⟩ := h.2 d a q
  refine ⟨⟨v, v1, (h16 v v1).trans v2⟩, fun y => ?_⟩
  obtain ⟨z, z1, z2, z3⟩ := v3 (by rw [← (h11 d).1]; exact y)
  exact ⟨z, z1, (h11 d).2.trans z2, by omega⟩
theorem VSA_s {vw' : Nat} (h : VSA S A m vw) (hS : KSc S S' i i' m sc u) (hw : vw ≤ vw') : VSA S' A m vw' :=
  VSA_k h (fun v hv => hS.1 16 v (by omega) (by omega) (by omega) (by omega) (by omega) (by omega) (by omega) (by omega) (by omega)) (fun e => ⟨hS.1 11 e (by omega) (by omega) (by omega) (by omega) (by omega) (by omega) (by omega) (by omega) (by omega), hS.1 13 e (by omega) (by omega) (by omega) (by omega) (by omega) (by omega) (by omega) (by omega) (by omega)⟩) hw
/-- a later state with the same visible NAMEs -/
theorem LSt_s {tp' mp' vw' lo' hi' i1 i2 j1 j2 : Nat} (h : LSt b t N D m A tp mp sz mz sc u vw lo hi S T) (hS : KSc S S' i1 i2 m sc u) (hT : KSm T T' j1 j2 m sc) (e11 : S'.1 8 11 = nI m) (e34 : T'.1 73 34 = nI m) (e5 : S'.1 3 5 = 0) (e3 : S'.1 39 3 = nI tp') (e7 : T'.1 73 7 = 0) (e43 : T'.1 73 43 = nI mp') (e56 : T'.1 73 56 = 0) (es : S'.1 39 5 = nI sc) (e49 : T'.1 73 49 = nI sc) (e9 : S'.1 39 9 = nI u) (e10 : S'.1 39 10 = nI vw') (hw : vw ≤ vw' ∧ vw' ≤ 256) (hB : BDS S' u lo' hi') : LSt b t N D m A tp' mp' sz mz sc u vw' lo' hi' S' T' := by
  obtain ⟨⟨hE, ⟨x1, x2, x3⟩, x4, ⟨x5, x6, x7⟩, x8, x9⟩, h47, -, ⟨-, hu⟩, -, -, hV⟩ := h
  exact ⟨⟨EV_s hE hS hT e11 e34, ⟨(hS.1 3 4 (by omega) (by omega) (by omega) (by omega) (by omega) (by omega) (by omega) (by omega) (by omega)).trans x1, x2, e5⟩, e3, ⟨(hT.1 73 13 (by omega) (by omega) (by omega) (by omega) (by omega) (by omega)).trans x5, x6, e7⟩, e43, e56⟩, (hT.1 73 47 (by omega) (by omega) (by omega) (by omega) (by omega) (by omega)).trans h47, ⟨es, e49⟩, ⟨e9, hu⟩, ⟨e10, hw.2⟩, hB, VSA_s hV hS hw.1⟩
/-- behind an EXPR -/
theorem LSt_x {tp' mp' i1 i2 j1 j2 tq mq cq : Nat} (h : LSt b t N D m A tp mp sz mz sc u vw lo hi S T) (hL : LX b t N D m 0 A tp' mp' 0 sz mz S' T') (hS : KKc S S' i1 i2 tq) (hT : KKm T T' j1 j2 mq cq) : LSt b t N D m A tp' mp' sz mz sc u vw lo hi S' T' := by
  obtain ⟨-, h47, ⟨s1, s2⟩, ⟨u1, u2⟩, ⟨w1, w2⟩, hB, hV⟩ := h
  have s : ∀ c k, (c = 16 ∨ c = 11 ∨ c = 13 ∨ c = 43 ∨ c = 44 ∨ (c = 39 ∧ ¬ k = 3)) → S'.1 c k = S.1 c k := fun c k a => hS.1 c k (by omega) (by omega) (by omega) (by omega)
  refine ⟨hL, (hT.1 73 47 (by omega) (by omega) (by omega) (by omega)).trans h47, ⟨(s 39 5 (by omega)).trans s1, (hT.1 73 49 (by omega) (by omega) (by omega) (by omega)).trans s2⟩, ⟨(s 39 9 (by omega)).trans u1, u2⟩, ⟨(s 39 10 (by omega)).trans w1, w2⟩, ?_, VSA_k hV (fun v _ => s 16 v (by omega)) (fun e => ⟨s 11 e (by omega), s 13 e (by omega)⟩) (Nat.le_refl _)⟩
  rcases hB with hB | ⟨u', e, b1, b2, b3⟩
  · exact Or.inl hB
  · exact Or.inr ⟨u', e, (s 43 u' (by omega)).trans b1, (s 44 u' (by omega)).trans b2, b3⟩
theorem HB_le {S0 : zS} {tp' mp' c c' i1 i2 : Nat} {d1 d2 : Int} (h : HB S0 i i' tp mp c) (hn : NE S0 i i1 d1 d2) (h2 : i2 ≤ i') (e1 : (tp' : Int) + c' ≤ tp + c + d1) (e2 : (mp' : Int) ≤ mp + d2) : HB S0 i1 i2 tp' mp' c' := fun y a1 a2 => by
  have := h y (Nat.le_trans hn.1 a1) (by omega)
  rw [hs_add hn.1 y a1, hs_add hn.1 y a1, hn.2.1, hn.2.2] at this
  omega
end SST
