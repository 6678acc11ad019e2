/-! the class's SORTS: one instruction -/
def kS (b : Nat → Int32) (t : Nat) (S : zS) (i : Nat) : zS :=
  if S.1 4 i = 2 ∨ S.1 4 i = 4 then kShow (kIn b t S i) (S.1 5 i)
  else if S.1 4 i = 3 then zi (kIn b t S i) 8 12 ((kIn b t S i).1 8 11)
  else if S.1 4 i = 5 then kShow (zi (zi (kMust S (S.1 12 (S.1 5 i).toNatClampNeg) i) 8 11 ((kMust S (S.1 12 (S.1 5 i).toNatClampNeg) i).1 8 12)) 8 12 0) (S.1 5 i)
  else if S.1 4 i = 6 then zi (kIn b t S i) 39 10 ((kIn b t S i).1 39 10 + ip_max 1 ((kIn b t S i).1 13 (S.1 5 i).toNatClampNeg))
  else if S.1 4 i = 7 then kShow (kMust S (S.1 12 (S.1 5 i).toNatClampNeg) i) (S.1 5 i)
  else if S.1 4 i = 8 then kShow S (S.1 5 i)
  else if S.1 4 i = 9 then kTarget b t S i false
  else if S.1 4 i = 11 then kTarget b t S i true
  else if S.1 4 i = 10 ∨ S.1 4 i = 12 then kNote (kMust S (S.1 12 (S.1 5 (S.1 5 i).toNatClampNeg).toNatClampNeg) i) ((kMust S (S.1 12 (S.1 5 (S.1 5 i).toNatClampNeg).toNatClampNeg) i).1 5 (S.1 5 i).toNatClampNeg).toNatClampNeg
  else if S.1 4 i = 13 then zi (kPop S) 5 i (kTop S &&& 1)
  else if S.1 4 i = 17 then kIn b t S i
  else if S.1 4 i = 14 then kOpenIf (kOpen (kMust S 1 i))
  else if S.1 4 i = 15 then kOpen (kClose S)
  else if S.1 4 i = 16 then kCloseIf (kClose S) ((kClose S).1 5 i).toNatClampNeg
  else if S.1 4 i = 18 ∨ S.1 4 i = 33 then kPub (kMust S 0 i) (kTop S) ((kMust S 0 i).1 6 i)
  else if S.1 4 i = 19 then kShow (kOpen S) ((kOpen S).1 5 i)
  else if S.1 4 i = 20 then kClose S
  else if S.1 4 i = 22 then kPush S 2
  else if S.1 4 i = 23 then kPush S 3
  else if S.1 4 i = 24 then kName b t S i
  else if S.1 4 i = 25 then kHead b t S i false
  else if S.1 4 i = 28 then kHead b t S i true
  else if S.1 4 i = 26 then zi (kMust S 0 i) 7 (S.1 5 i).toNatClampNeg (kTop S &&& 2)
  else if S.1 4 i = 27 ∨ S.1 4 i = 30 then kPush S (S.1 12 (S.1 5 (S.1 5 i).toNatClampNeg).toNatClampNeg)
  else if S.1 4 i = 29 then kMust S (S.1 12 (S.1 5 (S.1 5 i).toNatClampNeg + 1 + S.1 7 i).toNatClampNeg) i
  else if S.1 4 i = 31 then kPush (kMust S 1 i) (0 ||| (kTop S &&& 2))
  else if S.1 4 i = 32 then kPush (kMust S 0 i) (1 ||| (kTop S &&& 2))
  else if S.1 4 i = 37 then kSel S i
  else if S.1 4 i = 34 ∨ S.1 4 i = 35 ∨ S.1 4 i = 36 then kUna S i (S.1 4 i)
  else if 38 ≤ S.1 4 i then kOpr S i (S.1 4 i)
  else S
/-- many of them, up to a FAULT -/
def kR (b : Nat → Int32) (t : Nat) : Nat → Nat → zS → zS
  | 0, _, S => S
  | n + 1, i, S => if S.1 3 5 = 0 then kR b t n (i + 1) (kS b t S i) else S
/-- the class's SORTS goes from i to i' -/
def CG (l : Launch) (Gr : zG) (n w d : Nat) (S : zS) (i : Nat) (S' : zS) (i' : Nat) : Prop := ∀ Q, zW l Gr (zc n w) 168 M_Sorts_check (d + 6) 22 [some (.ref 71), some (.int (nI i')), none] [] S' Q → zW l Gr (zc n w) 168 M_Sorts_check (d + 6) 22 [some (.ref 71), some (.int (nI i)), none] [] S Q
section SK6
variable {l : Launch} {Gr : zG} {n w : Nat} {d : Nat} {b : Nat → Int32} {t p i i' j m f D tp sz u : Nat} {S S' S'' X : zS}
theorem kR_0 (h : S.1 3 5 = 0) : kR b t (u + 1) i S = kR b t u (i + 1) (kS b t S i) := by
  show (if _ then _ else _) = _
  rw [if_pos h]
theorem kR_F (h : ¬ S.1 3 5 = 0) : kR b t u i S = S := by
  cases u with
  | zero => rfl
  | succ u =>
    show (if _ then _ else _) = _
    rw [if_neg h]
theorem kR_add : ∀ (u v i : Nat) (S : zS), kR b t (u + v) i S = kR b t v (i + u) (kR b t u i S)
  | 0, v, i, S => by rw [Nat.zero_add]; rfl
  | u + 1, v, i, S => by
    by_cases h : S.1 3 5 = 0
    · rw [show u + 1 + v = (u + v) + 1 by omega, kR_0 h, kR_0 h, kR_add u v (i + 1) (kS b t S i), show i + 1 + u = i + (u + 1) by omega]
    · rw [kR_F h, kR_F h, kR_F h]
theorem CG_rfl : CG l Gr n w d S i S i := fun _ h => h
theorem CG_tr {S1 : zS} {i1 : Nat} (h1 : CG l Gr n w d S i S1 i1) (h2 : CG l Gr n w d S1 i1 S' i') : CG l Gr n w d S i S' i' := fun Q h => h1 Q (h2 Q h)
/-- ready for the instruction at i of sz -/
def CIx (S : zS) (i sz : Nat) : Prop := S.1 3 4 = nI sz ∧ sz ≤ 4000 ∧ S.1 3 5 = 0 ∧ i < sz
theorem cg_0 (h : CIx S i sz) {Q : Option Value → zS → Prop} (hs : ¬ 20 < S.1 4 i → zW l Gr (zc n w) 168 M_Sorts_check (d + 6) 59 [some (.ref 71), some (.int (nI i)), some (.int (S.1 4 i))] [] S Q) (hf : 20 < S.1 4 i → ¬ 33 < S.1 4 i → zW l Gr (zc n w) 168 M_Sorts_check (d + 6) 74 [some (.ref 71), some (.int (nI i)), some (.int (S.1 4 i))] [] S Q) (hu : 33 < S.1 4 i → ¬ 38 ≤ S.1 4 i → zW l Gr (zc n w) 168 M_Sorts_check (d + 6) 89 [some (.ref 71), some (.int (nI i)), some (.int (S.1 4 i))] [] S Q) (ho : 38 ≤ S.1 4 i → zW l Gr (zc n w) 168 M_Sorts_check (d + 6) 98 [some (.ref 71), some (.int (nI i)), some (.int (S.1 4 i))] [] S Q) : zW l Gr (zc n w) 168 M_Sorts_check (d + 6) 22 [some (.ref 71), some (.int (nI i)), none] [] S Q := by
  obtain ⟨h4, hsz, h5, hi⟩ := h
  refine b_Sorts_check_22 (fun z => by rw [h4] at z; exact absurd z (nI_ge (by omega) (by omega))) (fun _ => b_Sorts_check_33 (fun z => absurd h5 z) (fun _ => b_Sorts_check_43 (vp_in_nI (by omega) (by omega)) (fun z => ?_) (fun z => ?_)))
  · rw [nI_clamp (by omega)] at z ⊢
    exact b_Sorts_check_68 (fun z2 => b_Sorts_check_83 (fun z3 => ho z3) (fun z3 => hu z2 z3)) (fun z2 => hf z z2)
  · rw [nI_clamp (by omega)] at z ⊢
    exact hs z
theorem cg_S (hg : ip_gk (lg_tbl, vwCl, Gr)) (h : CIx S i sz) {o : Int32} (ho : S.1 4 i = o) (h1 : ¬ 20 < o) (h2 : ¬ 33 < o) (h3 : ¬ 38 ≤ o) (hc : zMv l Gr (zc n w) 168 M_Sorts_checkStatement (d + 5) [.ref 71, .int (nI i), .int o] S (fun S' => S' = X)) : CG l Gr n w d S i X (i + 1) := fun Q k => by
  refine cg_0 h (fun _ => ?_) (fun z => absurd (by rw [ho] at z; exact z) h1) (fun z => absurd (by rw [ho] at z; exact z) h2) (fun z => absurd (by rw [ho] at z; exact z) h3)
  rw [ho]
  refine b_Sorts_check_59 hg hc (fun A eA => b_Sorts_check_65 (b_Sorts_check_104 ?_))
  rw [eA, show nI i + Int32.ofInt 1 = nI (i + 1) from nI_1 i]
  exact k
theorem cg_F (hg : ip_gk (lg_tbl, vwCl, Gr)) (h : CIx S i sz) {o : Int32} (ho : S.1 4 i = o) (h1 : 20 < o) (h2 : ¬ 33 < o) (h3 : ¬ 38 ≤ o) (hc : zMv l Gr (zc n w) 168 M_Sorts_checkFactor (d + 5) [.ref 71, .int (nI i), .int o] S (fun S' => S' = X)) : CG l Gr n w d S i X (i + 1) := fun Q k => by
  refine cg_0 h (fun z => absurd (by rw [ho]; exact h1) z) (fun _ _ => ?_) (fun z => absurd (by rw [ho] at z; exact z) h2) (fun z => absurd (by rw [ho] at z; exact z) h3)
  rw [ho]
  refine b_Sorts_check_74 hg hc (fun A eA => b_Sorts_check_80 (b_Sorts_check_104 ?_))
  rw [eA, show nI i + Int32.ofInt 1 = nI (i + 1) from nI_1 i]
  exact k
theorem cg_U (hg : ip_gk (lg_tbl, vwCl, Gr)) (h : CIx S i sz) {o : Int32} (ho : S.1 4 i = o) (h1 : 20 < o) (h2 : 33 < o) (h3 : ¬ 38 ≤ o) (hc : zMv l Gr (zc n w) 168 M_Sorts_checkSign (d + 5) [.ref 71, .int (nI i), .int o] S (fun S' => S' = X)) : CG l Gr n w d S i X (i + 1) := fun Q k => by
  refine cg_0 h (fun z => absurd (by rw [ho]; exact h1) z) (fun _ z => absurd (by rw [ho]; exact h2) z) (fun _ _ => ?_) (fun z => absurd (by rw [ho] at z; exact z) h3)
  rw [ho]
  refine b_Sorts_check_89 hg hc (fun A eA => b_Sorts_check_95 (b_Sorts_check_104 ?_))
  rw [eA, show nI i + Int32.ofInt 1 = nI (i + 1) from nI_1 i]
  exact k
theorem cg_O (hg : ip_gk (lg_tbl, vwCl, Gr)) (h : CIx S i sz) {o : Int32} (ho : S.1 4 i = o) (h1 : 20 < o) (h2 : 33 < o) (h3 : 38 ≤ o) (hc : zMv l Gr (zc n w) 168 M_Sorts_checkOperator (d + 5) [.ref 71, .int (nI i), .int o] S (fun S' => S' = X)) : CG l Gr n w d S i X (i + 1) := fun Q k => by
  refine cg_0 h (fun z => absurd (by rw [ho]; exact h1) z) (fun _ z => absurd (by rw [ho]; exact h2) z) (fun _ z => absurd (by rw [ho]; exact h3) z) (fun _ => ?_)
  rw [ho]
  refine b_Sorts_check_98 hg hc (fun A eA => b_Sorts_check_104 ?_)
  rw [eA, show nI i + Int32.ofInt 1 = nI (i + 1) from nI_1 i]
  exact k
/-! each kind -/
theorem kS_lit {o : Int32} (h : S.1 4 i = o) : kS b t S i = kS b t S i := rfl
-- EXPRs
theorem g_step (h : CIx S i sz) (ho : S.1 4 i = 1) (hg : ip_gk (lg_tbl, vwCl, Gr)) : kS b t S i = S ∧ CG l Gr n w d S i S (i + 1) := by
  have hin : vp_in (nI i) 4000 := vp_in_nI (by have := h.2.1; have := h.2.2.2; omega) (by have := h.2.1; have := h.2.2.2; omega)
  refine ⟨by unfold kS; rw [ho]; rfl, cg_S hg h ho (by decide) (by decide) (by decide) (e_Sorts_checkStatement (b_Sorts_checkStatement_0 hin (fun z => absurd z (by decide)) (fun z => absurd z (by decide)) (fun z => absurd z (by decide)) (fun z => absurd z (by decide)) (fun z => absurd z (by decide)) (fun z => absurd z (by decide)) (fun z => absurd z (by decide)) (fun z => absurd z (by decide)) (fun z => absurd z (by decide)) (fun z => absurd z (by decide)) (fun z => absurd z (by decide)) (fun z => absurd z (by decide)) (fun z => absurd z (by decide)) (fun _ _ _ _ _ _ _ _ _ _ _ _ _ => b_Sorts_checkStatement_299 (R := fun S' => S' = S) hg (e_Sorts_checkFlow (b_Sorts_checkFlow_0 (fun z => absurd z (by decide)) (fun z => absurd z (by decide)) (fun z => absurd z (by decide)) (fun z => absurd z (by decide)) (fun z => absurd z (by decide)) (fun z => absurd z (by decide)) (fun _ _ _ _ _ _ => b_Sorts_checkFlow_145 ⟨rfl, rfl⟩))) (fun A eA => b_Sorts_checkStatement_305 ⟨rfl, eA⟩))))⟩
end SK6
