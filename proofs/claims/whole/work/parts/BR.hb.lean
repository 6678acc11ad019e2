/-! SORTS of one EXPR on both sides: room, and codes not yet run -/
/-- there is room for all that waits from i to i' -/
def HB (S0 : zS) (i i' tp mp c : Nat) : Prop := ∀ y, i ≤ y → y ≤ i' → (tp : Int) + c + hs (ef1 S0) i y ≤ 371 ∧ (mp : Int) + hs (ef2 S0) i y ≤ 4100
section HBs
variable {b : Nat → Int32} {t tp tp' mp mp' c c' i i' i1 i2 j j' j1 j2 k x p : Nat} {S0 S S' T0 T T' : zS} {d1 d2 : Int}
theorem HB_sub (h : HB S0 i i' tp mp c) (hn : NE S0 i i1 d1 d2) (h2 : i2 ≤ i') (e1 : (tp' : Int) + c' = tp + c + d1) (e2 : (mp' : Int) = mp + d2) : HB S0 i1 i2 tp' mp' c' := fun y a1 a2 => by
  have := h y (Nat.le_trans hn.1 a1) (by omega)
  rw [hs_add hn.1 y a1, hs_add hn.1 y a1, hn.2.1, hn.2.2] at this
  omega
theorem HB_at (h : HB S0 i i' tp mp c) (hn : NE S0 i i1 d1 d2) (h2 : i1 ≤ i') : (tp : Int) + c + d1 ≤ 371 ∧ (mp : Int) + d2 ≤ 4100 := by
  have := h i1 hn.1 h2
  rw [hn.2.1, hn.2.2] at this
  exact this
theorem cg_c (h : cgS S0 S i2 i') (hS : KKc S S' i i1 tp) (a1 : i1 ≤ i2) : cgS S0 S' i2 i' := fun y q1 q2 => by
  obtain ⟨e1, e2, e3, e4⟩ := h y q1 q2
  exact ⟨(hS.1 4 y (by omega) (by omega) (by omega) (by omega)).trans e1, (hS.1 5 y (by omega) (by omega) (by omega) (by omega)).trans e2, (hS.1 6 y (by omega) (by omega) (by omega) (by omega)).trans e3, (hS.1 7 y (by omega) (by omega) (by omega) (by omega)).trans e4⟩
theorem cg_m (h : cgT T0 T j2 j') (hT : KKm T T' j j1 mp c) (a1 : j1 ≤ j2) : cgT T0 T' j2 j' := fun y q1 q2 => by
  obtain ⟨e1, e2, e3, e4, e5⟩ := h y q1 q2
  exact ⟨(hT.1 78 y (by omega) (by omega) (by omega) (by omega)).trans e1, (hT.1 79 y (by omega) (by omega) (by omega) (by omega)).trans e2, (hT.1 80 y (by omega) (by omega) (by omega) (by omega)).trans e3, (hT.1 81 y (by omega) (by omega) (by omega) (by omega)).trans e4, (hT.2 82 y).trans e5⟩
theorem nid_m (h : nid b t T x p) (hT : KKm T T' j j1 mp c) : nid b t T' x p := nid_k h (hT.1 73 9 (by omega) (by omega) (by omega) (by omega)) (fun k => hT.1 76 k (by omega) (by omega) (by omega) (by omega))
theorem cgS_sub (h : cgS S0 S i i') (a1 : i ≤ i1) (a2 : i2 ≤ i') : cgS S0 S i1 i2 := fun y q1 q2 => h y (by omega) (by omega)
theorem cgT_sub (h : cgT T0 T j j') (a1 : j ≤ j1) (a2 : j2 ≤ j') : cgT T0 T j1 j2 := fun y q1 q2 => h y (by omega) (by omega)
end HBs
