/-! the class's SORTS: operators and signs -/
abbrev kFits (x y op : Int32) : Prop := x &&& 1 = y &&& 1 ∧ ((¬ op < 40 ∧ ¬ 44 < op) ∨ x &&& 1 = if op = 38 ∨ op = 39 then 1 else 0)
def kOp3 (S : zS) (i : Nat) (x y op : Int32) : zS := if kFits x y op then (if op = 49 ∨ op = 50 then kPub S y (S.1 7 i) else S) else kT S 5 (S.1 6 i)
def kOpr (S : zS) (i : Nat) (op : Int32) : zS :=
  kPush (zi (kOp3 (kPop (kPop S)) i (kTop (kPop S)) (kTop S) op) 5 i (kTop (kPop S) &&& 1)) ((if ¬ op < 43 ∧ ¬ 48 < op then 1 else kTop (kPop S) &&& 1) ||| (kTop (kPop S) &&& kTop S &&& 2))
def kSel (S : zS) (i : Nat) : zS :=
  kPush (zi (if kTop (kPop (kPop S)) &&& 1 = 1 ∧ kTop (kPop S) &&& 1 = kTop S &&& 1 then kPop (kPop (kPop S)) else kT (kPop (kPop (kPop S))) 5 ((kPop (kPop (kPop S))).1 6 i)) 5 i (kTop (kPop S) &&& 1)) ((kTop (kPop S) &&& 1) ||| (kTop (kPop (kPop S)) &&& kTop (kPop S) &&& kTop S &&& 2))
def kUna (S : zS) (i : Nat) (op : Int32) : zS := kPush (if kTop S &&& 1 = (if op = 36 then 1 else 0) then kPop S else kT (kPop S) 5 ((kPop S).1 6 i)) (kTop S)
section SK5
variable {l : Launch} {Gr : zG} {n w : Nat} {d : Nat} {b : Nat → Int32} {t p i m f D tp : Nat} {S S' : zS}
theorem kPub_c {x pl : Int32} {c k : Nat} (h : ¬ (c = 3 ∧ (k = 5 ∨ k = 6))) : (kPub S x pl).1 c k = S.1 c k := by
  unfold kPub
  split
  · exact kT_c h
  · rfl
theorem kPop_3 (h : S.1 39 3 = nI (m + 1)) : (kPop S).1 39 3 = nI m := by
  unfold kPop
  rw [h, nI_pred]
  exact zi_v
theorem w_checkOperator (hg : ip_gk (lg_tbl, vwCl, Gr)) {op : Int32} (h : S.1 39 3 = nI (m + 2)) (hm : m + 1 < 372) (hi : i < 4000) : zMv l Gr (zc n w) 168 M_Sorts_checkOperator (d + 2) [.ref 71, .int (nI i), .int op] S (fun S' => S' = kOpr S i op) := by
  have hin : vp_in (nI i) 4000 := vp_in_nI hi (by omega)
  have h1 : (kPop S).1 39 3 = nI (m + 1) := kPop_3 h
  have h2 : (kPop (kPop S)).1 39 3 = nI m := kPop_3 h1
  refine e_Sorts_checkOperator (b_Sorts_checkOperator_0 hg (w_pop h (by omega)) (fun v A hv => ?_))
  rw [hv.1, hv.2]
  refine b_Sorts_checkOperator_4 hg (w_pop h1 (by omega)) (fun v A hv => ?_)
  rw [hv.1, hv.2]
  unfold kOpr
  obtain ⟨X, eX⟩ : ∃ X, X = kPop (kPop S) := ⟨_, rfl⟩
  obtain ⟨y, ey⟩ : ∃ y, y = kTop S := ⟨_, rfl⟩
  obtain ⟨x, ex⟩ : ∃ x, x = kTop (kPop S) := ⟨_, rfl⟩
  rw [← eX] at h2 ⊢
  rw [← ey, ← ex]
  -- the end
  have k142 : ∀ Y : zS, Y.1 39 3 = nI m → zW l Gr (zc n w) 168 M_Sorts_checkOperator (d + 2) 142 [some (.ref 71), some (.int (nI i)), some (.int op), some (.int y), some (.int x), none, none, none, none] [] Y (fun v S' => v = none ∧ S' = kPush (zi Y 5 i (x &&& 1)) ((if ¬ op < 43 ∧ ¬ 48 < op then 1 else x &&& 1) ||| (x &&& y &&& 2))) := fun Y y3 => by
    have z3 : (zi Y 5 i (x &&& 1)).1 39 3 = nI m := by rw [zi_c (by decide)]; exact y3
    refine b_Sorts_checkOperator_142 hg w_sortOf (fun v A hv => ?_)
    rw [hv.1, hv.2]
    have k190 : ∀ c : Int32, zW l Gr (zc n w) 168 M_Sorts_checkOperator (d + 2) 190 [none, none, none, some (.int y), some (.int x), none, none, none, none] [.int c, .ref 71] (zi Y 5 i (x &&& 1)) (fun v S' => v = none ∧ S' = kPush (zi Y 5 i (x &&& 1)) (c ||| (x &&& y &&& 2))) := fun c =>
      b_Sorts_checkOperator_190 hg (w_push z3 (by omega)) (fun A eA => b_Sorts_checkOperator_200 ⟨rfl, eA⟩)
    have no : ¬ (¬ op < 43 ∧ ¬ 48 < op) → zW l Gr (zc n w) 168 M_Sorts_checkOperator (d + 2) 172 [some (.ref 71), none, none, some (.int y), some (.int x), none, none, none, none] [] (zi Y 5 i (x &&& 1)) (fun v S' => v = none ∧ S' = kPush (zi Y 5 i (x &&& 1)) ((if ¬ op < 43 ∧ ¬ 48 < op then 1 else x &&& 1) ||| (x &&& y &&& 2))) := fun hn => by
      refine b_Sorts_checkOperator_172 (b_Sorts_checkOperator_173 (fun _ => b_Sorts_checkOperator_185 hg w_sortOf (fun v A hv => ?_)) (fun z => absurd rfl z))
      rw [hv.1, hv.2, if_neg hn]
      exact k190 _
    refine b_Sorts_checkOperator_155 hin (fun z => ?_) (fun z => ?_)
    · rw [nI_clamp (by omega)]
      exact no (fun q => q.1 z)
    · rw [nI_clamp (by omega)]
      refine b_Sorts_checkOperator_162 (fun z2 => no (fun q => q.2 z2)) (fun z2 => b_Sorts_checkOperator_168 (b_Sorts_checkOperator_173 (fun q => absurd q (by decide)) (fun _ => b_Sorts_checkOperator_181 ?_)))
      rw [if_pos ⟨z, z2⟩]
      exact k190 1
  -- it fits
  have k116 : kFits x y op → zW l Gr (zc n w) 168 M_Sorts_checkOperator (d + 2) 116 [some (.ref 71), some (.int (nI i)), some (.int op), some (.int y), some (.int x), none, none, none, none] [] X (fun v S' => v = none ∧ S' = kPush (zi (kOp3 X i x y op) 5 i (x &&& 1)) ((if ¬ op < 43 ∧ ¬ 48 < op then 1 else x &&& 1) ||| (x &&& y &&& 2))) := fun hf => by
    unfold kOp3
    rw [if_pos hf]
    have k128 : op = 49 ∨ op = 50 → zW l Gr (zc n w) 168 M_Sorts_checkOperator (d + 2) 128 [some (.ref 71), some (.int (nI i)), some (.int op), some (.int y), some (.int x), none, none, none, none] [] X (fun v S' => v = none ∧ S' = kPush (zi (if op = 49 ∨ op = 50 then kPub X y (X.1 7 i) else X) 5 i (x &&& 1)) ((if ¬ op < 43 ∧ ¬ 48 < op then 1 else x &&& 1) ||| (x &&& y &&& 2))) := fun ho => by
      refine b_Sorts_checkOperator_128 hg hin (w_pub hg) (fun A eA => ?_)
      rw [eA, nI_clamp (by omega), if_pos ho]
      exact k142 _ ((kPub_c (by omega)).trans h2)
    refine b_Sorts_checkOperator_116 (fun z => k128 (Or.inl z)) (fun z => b_Sorts_checkOperator_122 (fun z2 => ?_) (fun z2 => k128 (Or.inr z2)))
    rw [if_neg (fun q => q.elim z z2)]
    exact k142 X h2
  have k88 : ¬ kFits x y op → zW l Gr (zc n w) 168 M_Sorts_checkOperator (d + 2) 88 [some (.ref 71), some (.int (nI i)), some (.int op), some (.int y), some (.int x), none, none, none, none] [] X (fun v S' => v = none ∧ S' = kPush (zi (kOp3 X i x y op) 5 i (x &&& 1)) ((if ¬ op < 43 ∧ ¬ 48 < op then 1 else x &&& 1) ||| (x &&& y &&& 2))) := fun hf => by
    unfold kOp3
    rw [if_neg hf]
    refine b_Sorts_checkOperator_88 (b_Sorts_checkOperator_89 (fun z => absurd rfl z) (fun _ => b_Sorts_checkOperator_96 hg hin w_tl (fun A eA => b_Sorts_checkOperator_113 ?_)))
    rw [eA, nI_clamp (by omega)]
    exact k142 _ ((kT_c (by omega)).trans h2)
  have k84 : kFits x y op → zW l Gr (zc n w) 168 M_Sorts_checkOperator (d + 2) 84 [some (.ref 71), some (.int (nI i)), some (.int op), some (.int y), some (.int x), none, none, none, none] [] X (fun v S' => v = none ∧ S' = kPush (zi (kOp3 X i x y op) 5 i (x &&& 1)) ((if ¬ op < 43 ∧ ¬ 48 < op then 1 else x &&& 1) ||| (x &&& y &&& 2))) := fun hf =>
    b_Sorts_checkOperator_84 (b_Sorts_checkOperator_89 (fun _ => k116 hf) (fun z => absurd z (by decide)))
  have k47 : ∀ ob oe : Int32, ob = (if op = 38 ∨ op = 39 then 1 else 0) → oe = (if ¬ op < 40 ∧ ¬ 44 < op then 1 else 0) → zW l Gr (zc n w) 168 M_Sorts_checkOperator (d + 2) 47 [some (.ref 71), some (.int (nI i)), some (.int op), some (.int y), some (.int x), some (.int ob), none, none, none] [.int oe] X (fun v S' => v = none ∧ S' = kPush (zi (kOp3 X i x y op) 5 i (x &&& 1)) ((if ¬ op < 43 ∧ ¬ 48 < op then 1 else x &&& 1) ||| (x &&& y &&& 2))) := fun ob oe hob hoe => by
    refine b_Sorts_checkOperator_47 hg w_sortOf (fun v A hv => ?_)
    rw [hv.1, hv.2]
    refine b_Sorts_checkOperator_54 hg w_sortOf (fun v A hv => ?_)
    rw [hv.1, hv.2]
    refine b_Sorts_checkOperator_58 (fun z => k88 (fun q => z q.1)) (fun z => b_Sorts_checkOperator_61 (fun z2 => k84 ⟨z, Or.inl ?_⟩) (fun z2 => b_Sorts_checkOperator_66 hg w_sortOf (fun v A hv => ?_)))
    · by_cases q : ¬ op < 40 ∧ ¬ 44 < op
      · exact q
      · rw [if_neg q] at hoe; exact absurd hoe z2
    · rw [hv.1, hv.2]
      have nq : ¬ (¬ op < 40 ∧ ¬ 44 < op) := fun q => by
        rw [if_pos q, z2] at hoe
        exact absurd hoe (by decide)
      have k81 : zW l Gr (zc n w) 168 M_Sorts_checkOperator (d + 2) 81 [some (.ref 71), some (.int (nI i)), some (.int op), some (.int y), some (.int x), none, none, none, none] [.int ob, .int (x &&& 1)] X (fun v S' => v = none ∧ S' = kPush (zi (kOp3 X i x y op) 5 i (x &&& 1)) ((if ¬ op < 43 ∧ ¬ 48 < op then 1 else x &&& 1) ||| (x &&& y &&& 2))) :=
        b_Sorts_checkOperator_81 (fun q => k88 (fun r => r.2.elim nq (fun r => q (by rw [hob]; exact r)))) (fun q => k84 ⟨z, Or.inr (by rw [hob] at q; exact q)⟩)
      refine b_Sorts_checkOperator_71 (fun q => b_Sorts_checkOperator_80 ?_) (fun q => b_Sorts_checkOperator_76 ?_)
      · rw [q] at k81; exact k81
      · have : ob = 1 := by
          by_cases r : op = 38 ∨ op = 39
          · rw [hob, if_pos r]
          · rw [if_neg r] at hob; exact absurd hob q
        rw [this] at k81; exact k81
  have k28 : ∀ ob : Int32, ob = (if op = 38 ∨ op = 39 then 1 else 0) → zW l Gr (zc n w) 168 M_Sorts_checkOperator (d + 2) 28 [some (.ref 71), some (.int (nI i)), some (.int op), some (.int y), some (.int x), none, none, none, none] [.int ob] X (fun v S' => v = none ∧ S' = kPush (zi (kOp3 X i x y op) 5 i (x &&& 1)) ((if ¬ op < 43 ∧ ¬ 48 < op then 1 else x &&& 1) ||| (x &&& y &&& 2))) := fun ob hob =>
    b_Sorts_checkOperator_28 (fun z => b_Sorts_checkOperator_46 (k47 ob 0 hob (by rw [if_neg (fun q => q.1 z)]))) (fun z => b_Sorts_checkOperator_36 (fun z2 => b_Sorts_checkOperator_46 (k47 ob 0 hob (by rw [if_neg (fun q => q.2 z2)]))) (fun z2 => b_Sorts_checkOperator_42 (k47 ob 1 hob (by rw [if_pos ⟨z, z2⟩]))))
  exact b_Sorts_checkOperator_9 (fun z => b_Sorts_checkOperator_23 (k28 1 (by rw [if_pos (Or.inl z)]))) (fun z => b_Sorts_checkOperator_17 (fun z2 => b_Sorts_checkOperator_27 (k28 0 (by rw [if_neg (fun q => q.elim z z2)]))) (fun z2 => b_Sorts_checkOperator_23 (k28 1 (by rw [if_pos (Or.inr z2)]))))
theorem w_checkUna (hg : ip_gk (lg_tbl, vwCl, Gr)) {op : Int32} (ho : ¬ op = 37) (h : S.1 39 3 = nI (m + 1)) (hm : m < 372) (hi : i < 4000) : zMv l Gr (zc n w) 168 M_Sorts_checkSign (d + 2) [.ref 71, .int (nI i), .int op] S (fun S' => S' = kUna S i op) := by
  have hin : vp_in (nI i) 4000 := vp_in_nI hi (by omega)
  have h1 : (kPop S).1 39 3 = nI m := kPop_3 h
  refine e_Sorts_checkSign (b_Sorts_checkSign_0 (fun _ => b_Sorts_checkSign_95 hg (w_pop h hm) (fun v A hv => ?_)) (fun z => absurd z ho))
  rw [hv.1, hv.2]
  refine b_Sorts_checkSign_99 hg w_sortOf (fun v A hv => ?_)
  rw [hv.1, hv.2]
  unfold kUna
  have k115 : ∀ c : Int32, c = (if op = 36 then 1 else 0) → zW l Gr (zc n w) 168 M_Sorts_checkSign (d + 2) 115 [some (.ref 71), some (.int (nI i)), none, some (.int (kTop S)), none, none] [.int c, .int (kTop S &&& 1)] (kPop S) (fun v S' => v = none ∧ S' = kPush (if kTop S &&& 1 = (if op = 36 then 1 else 0) then kPop S else kT (kPop S) 5 ((kPop S).1 6 i)) (kTop S)) := fun c hc => by
    refine b_Sorts_checkSign_115 (fun z => b_Sorts_checkSign_135 hg (w_push h1 hm) (fun A eA => b_Sorts_checkSign_140 ⟨rfl, ?_⟩)) (fun z => b_Sorts_checkSign_118 hg hin w_tl (fun A eA => ?_))
    · rw [eA, ← hc, if_pos z]
    · rw [eA, nI_clamp (by omega)]
      refine b_Sorts_checkSign_135 hg (w_push ((kT_c (by omega)).trans h1) hm) (fun A eA => b_Sorts_checkSign_140 ⟨rfl, ?_⟩)
      rw [eA, ← hc, if_neg z]
  exact b_Sorts_checkSign_104 (fun z => b_Sorts_checkSign_114 (k115 0 (by rw [if_neg z]))) (fun z => b_Sorts_checkSign_110 (k115 1 (by rw [if_pos z])))
theorem w_checkSel (hg : ip_gk (lg_tbl, vwCl, Gr)) (h : S.1 39 3 = nI (m + 3)) (hm : m + 2 < 372) (hi : i < 4000) : zMv l Gr (zc n w) 168 M_Sorts_checkSign (d + 2) [.ref 71, .int (nI i), .int 37] S (fun S' => S' = kSel S i) := by
  have hin : vp_in (nI i) 4000 := vp_in_nI hi (by omega)
  have h1 : (kPop S).1 39 3 = nI (m + 2) := kPop_3 h
  have h2 : (kPop (kPop S)).1 39 3 = nI (m + 1) := kPop_3 h1
  have h3 : (kPop (kPop (kPop S))).1 39 3 = nI m := kPop_3 h2
  refine e_Sorts_checkSign (b_Sorts_checkSign_0 (fun z => absurd rfl z) (fun _ => b_Sorts_checkSign_6 hg (w_pop h (by omega)) (fun v A hv => ?_)))
  rw [hv.1, hv.2]
  refine b_Sorts_checkSign_10 hg (w_pop h1 (by omega)) (fun v A hv => ?_)
  rw [hv.1, hv.2]
  refine b_Sorts_checkSign_15 hg (w_pop h2 (by omega)) (fun v A hv => ?_)
  rw [hv.1, hv.2]
  unfold kSel
  obtain ⟨X, eX⟩ : ∃ X, X = kPop (kPop (kPop S)) := ⟨_, rfl⟩
  obtain ⟨y, ey⟩ : ∃ y, y = kTop S := ⟨_, rfl⟩
  obtain ⟨x, ex⟩ : ∃ x, x = kTop (kPop S) := ⟨_, rfl⟩
  obtain ⟨c, ec⟩ : ∃ c, c = kTop (kPop (kPop S)) := ⟨_, rfl⟩
  rw [← eX] at h3 ⊢
  rw [← ey, ← ex, ← ec]
  have k61 : ∀ Y : zS, Y.1 39 3 = nI m → zW l Gr (zc n w) 168 M_Sorts_checkSign (d + 2) 61 [some (.ref 71), some (.int (nI i)), none, some (.int y), some (.int x), some (.int c)] [] Y (fun v S' => v = none ∧ S' = kPush (zi Y 5 i (x &&& 1)) ((x &&& 1) ||| (c &&& x &&& y &&& 2))) := fun Y y3 => by
    refine b_Sorts_checkSign_61 hg w_sortOf (fun v A hv => ?_)
    rw [hv.1, hv.2]
    refine b_Sorts_checkSign_74 (R := fun v S' => v = x &&& 1 ∧ S' = zi Y 5 i (x &&& 1)) hg hin (by rw [nI_clamp (by omega)]; exact w_sortOf) (fun v A hv => ?_)
    rw [hv.1, hv.2]
    exact b_Sorts_checkSign_81 hg (w_push (by rw [zi_c (by decide)]; exact y3) (by omega)) (fun A eA => b_Sorts_checkSign_94 ⟨rfl, eA⟩)
  refine b_Sorts_checkSign_21 hg w_sortOf (fun v A hv => ?_)
  rw [hv.1, hv.2]
  have k44 : ¬ (c &&& 1 = 1 ∧ x &&& 1 = y &&& 1) → zW l Gr (zc n w) 168 M_Sorts_checkSign (d + 2) 44 [some (.ref 71), some (.int (nI i)), none, some (.int y), some (.int x), some (.int c)] [] X (fun v S' => v = none ∧ S' = kPush (zi (if c &&& 1 = 1 ∧ x &&& 1 = y &&& 1 then X else kT X 5 (X.1 6 i)) 5 i (x &&& 1)) ((x &&& 1) ||| (c &&& x &&& y &&& 2))) := fun hn => by
    refine b_Sorts_checkSign_44 hg hin w_tl (fun A eA => ?_)
    rw [eA, nI_clamp (by omega), if_neg hn]
    exact k61 _ ((kT_c (by omega)).trans h3)
  refine b_Sorts_checkSign_28 (fun z => k44 (fun q => z q.1)) (fun z => b_Sorts_checkSign_32 hg w_sortOf (fun v A hv => ?_))
  rw [hv.1, hv.2]
  refine b_Sorts_checkSign_37 hg w_sortOf (fun v A hv => ?_)
  rw [hv.1, hv.2]
  refine b_Sorts_checkSign_41 (fun q => ?_) (fun q => k44 (fun r => q r.2))
  rw [if_pos ⟨z, q⟩]
  exact k61 X h3
end SK5
