/-! the reference's SORTS: operators -/
abbrev mSame (x : Int32) : Prop := x = 3 ∨ x = 4 ∨ x = 5 ∨ x = 6 ∨ x = 7
abbrev mBits (x : Int32) : Prop := x = 1 ∨ x = 2
abbrev mFits (a c x : Int32) : Prop := (mSame x ∧ a = c) ∨ (¬ mSame x ∧ mBits x ∧ a = 1 ∧ c = 1) ∨ (¬ mSame x ∧ ¬ mBits x ∧ a = 0 ∧ c = 0)
def mBi (T : zS) (m j : Nat) : zS := if T.1 79 j = 12 ∨ T.1 79 j = 13 then zi (mPb T (m + 1)) 106 j (T.1 99 (m + 1)) else T
def mB2 (T X : zS) (m j : Nat) : zS := zi (zi (zi (zi X 80 j (T.1 98 m)) 73 43 (nI (m + 1))) 100 m (if T.1 100 m = 0 ∨ T.1 100 (m + 1) = 0 then 0 else 1)) 98 m (if (¬ T.1 79 j < 6 ∧ T.1 79 j ≤ 11) ∨ mBits (T.1 79 j) then 1 else T.1 98 m)
section MKA
variable {l : Launch} {Gr : zG} {n w : Nat} {d : Nat} {m m0 M s j mz c q : Nat} {T T' X : zS} {v r p pb : Int32}
theorem mPb_c {c k : Nat} (h : ¬ (c = 73 ∧ (k = 7 ∨ k = 8))) : (mPb T m).1 c k = T.1 c k := by
  unfold mPb
  split
  · exact mF_c' h
  · rfl
theorem wm_bin (hg : ip_gk (lg_tbl, vwCl, Gr)) (h7 : T.1 73 7 = 0) (hj : j < 12000) (h43 : T.1 73 43 = nI (m + 2)) (hm : m + 1 < 4200) : zMv l Gr (zc n w) 168 M_Mo_binarySort (d + 2) [.ref 105, .int (nI j)] T (fun T' => T' = if mFits (T.1 98 m) (T.1 98 (m + 1)) (T.1 79 j) then mB2 T (mBi T m j) m j else mF T 5 (T.1 81 j)) := by
  have hin : vp_in (nI j) 12000 := vp_in_nI hj (by omega)
  have ec : (nI j).toNatClampNeg = j := nI_clamp (by omega)
  have e1 : T.1 73 43 - 1 = nI (m + 1) := by rw [h43]; exact nI_pred (m + 1)
  have e2 : T.1 73 43 - 2 = nI m := by rw [h43]; show nI (m + 2) - nI 2 = _; rw [pk_sub (by omega)]; rfl
  have c1 : (nI (m + 1)).toNatClampNeg = m + 1 := nI_clamp (by omega)
  have c0 : (nI m).toNatClampNeg = m := nI_clamp (by omega)
  obtain ⟨x, ex⟩ : ∃ x, x = T.1 79 j := ⟨_, rfl⟩
  obtain ⟨a, ea⟩ : ∃ a, a = T.1 98 m := ⟨_, rfl⟩
  obtain ⟨b, eb⟩ : ∃ b, b = T.1 98 (m + 1) := ⟨_, rfl⟩
  obtain ⟨G, eG⟩ : ∃ G : zS, G = if mFits a b x then mB2 T (mBi T m j) m j else mF T 5 (T.1 81 j) := ⟨_, rfl⟩
  rw [← ex, ← ea, ← eb, ← eG]
  -- the end
  have k283 : ∀ (Y : zS) (cc : Int32), Y.1 73 43 = nI (m + 1) → zi Y 98 m cc = G → zW l Gr (zc n w) 168 M_Mo_binarySort (d + 2) 283 [none, none, none, none, none, none, none, none] [.int cc, .int (nI m), .ref 130] Y (fun v T' => v = none ∧ T' = G) := fun Y cc y43 hY =>
    b_Mo_binarySort_283 (vp_in_nI (by omega) (by omega)) ⟨rfl, by rw [c0]; exact hY⟩
  have k250 : ∀ (Y : zS) (bi pb : Int32), (bi = if mBits x then 1 else 0) → Y.1 73 43 = nI (m + 1) → zi (zi Y 100 m (pb &&& 1)) 98 m (if (¬ x < 6 ∧ x ≤ 11) ∨ mBits x then 1 else a) = G → zW l Gr (zc n w) 168 M_Mo_binarySort (d + 2) 250 [some (.ref 105), none, some (.int x), some (.int a), none, none, some (.int bi), none] [.int pb, .int (nI m), .ref 132] Y (fun v T' => v = none ∧ T' = G) := fun Y bi pb hbi y43 hY => by
    have e : Y.1 73 43 - 1 = nI m := by rw [y43]; exact nI_pred m
    have z43 : (zi Y 100 m (pb &&& 1)).1 73 43 = nI (m + 1) := by rw [zi_c (by decide)]; exact y43
    have one : (¬ x < 6 ∧ x ≤ 11) ∨ mBits x → zW l Gr (zc n w) 168 M_Mo_binarySort (d + 2) 278 [none, none, none, none, none, none, none, none] [.int (nI m), .ref 130] (zi Y 100 m (pb &&& 1)) (fun v T' => v = none ∧ T' = G) := fun hc =>
      b_Mo_binarySort_278 (k283 _ 1 z43 (by rw [if_pos hc] at hY; exact hY))
    have k273 : ¬ (¬ x < 6 ∧ x ≤ 11) → zW l Gr (zc n w) 168 M_Mo_binarySort (d + 2) 273 [none, none, none, some (.int a), none, none, some (.int bi), none] [.int (nI m), .ref 130] (zi Y 100 m (pb &&& 1)) (fun v T' => v = none ∧ T' = G) := fun hn => by
      refine b_Mo_binarySort_273 (fun z => b_Mo_binarySort_282 (k283 _ a z43 ?_)) (fun z => one (Or.inr ?_))
      · rw [if_neg (fun y => y.elim hn (fun y => absurd (z.symm.trans (hbi.trans (if_pos y))) (by decide)))] at hY
        exact hY
      · by_cases y : mBits x
        · exact y
        · rw [hbi, if_neg y] at z; exact absurd rfl z
    refine b_Mo_binarySort_250 (vp_in_nI (by omega) (by omega)) (fun z => ?_) (fun z => ?_)
    · rw [c0, e]
      exact k273 (fun y => y.1 z)
    · rw [c0, e]
      exact b_Mo_binarySort_267 (fun z2 => one (Or.inl ⟨z, z2⟩)) (fun z2 => k273 (fun y => z2 y.2))
  have k192 : ∀ (Y : zS) (bi : Int32), (bi = if mBits x then 1 else 0) → mFits a b x → Y = mBi T m j → zW l Gr (zc n w) 168 M_Mo_binarySort (d + 2) 192 [some (.ref 105), some (.int (nI j)), some (.int x), some (.int a), none, none, some (.int bi), none] [] Y (fun v T' => v = none ∧ T' = G) := fun Y bi hbi hf hY => by
    have y43 : Y.1 73 43 = nI (m + 2) ∧ ∀ k, Y.1 100 k = T.1 100 k := by
      rw [hY]
      unfold mBi
      split
      · exact ⟨by rw [zi_c (by decide), mPb_c (by omega)]; exact h43, fun k => by rw [zi_c (by decide), mPb_c (by omega)]⟩
      · exact ⟨h43, fun _ => rfl⟩
    have f1 : Y.1 73 43 - 1 = nI (m + 1) := by rw [y43.1]; exact nI_pred (m + 1)
    have f0 : Y.1 73 43 - 1 - 1 = nI m := by rw [f1]; exact nI_pred m
    have z43 : (zi (zi Y 80 j a) 73 43 (nI (m + 1))).1 73 43 = nI (m + 1) := zi_v
    have z100 : (zi (zi Y 80 j a) 73 43 (nI (m + 1))).1 100 (m + 1) = T.1 100 (m + 1) := by rw [zi_c (by decide), zi_c (by decide)]; exact y43.2 _
    have eq : ∀ pb : Int32, (pb &&& 1 = if T.1 100 m = 0 ∨ T.1 100 (m + 1) = 0 then 0 else 1) → zi (zi (zi (zi Y 80 j a) 73 43 (nI (m + 1))) 100 m (pb &&& 1)) 98 m (if (¬ x < 6 ∧ x ≤ 11) ∨ mBits x then 1 else a) = G := fun pb hpb => by
      rw [eG, if_pos hf, hpb, hY]
      unfold mB2
      rw [← ex, ← ea]
    refine b_Mo_binarySort_192 hin (by rw [f0]; exact vp_in_nI (by omega) (by omega)) (fun z => ?_) (fun z => ?_)
    · rw [f0, c0, y43.2] at z
      rw [f0, f1, ec]
      exact b_Mo_binarySort_249 (k250 _ bi 0 hbi z43 (eq 0 (by rw [if_pos (Or.inl z)]; decide)))
    · rw [f0, c0, y43.2] at z
      rw [f0, f1, ec]
      refine b_Mo_binarySort_233 (by rw [z43]; exact vp_in_nI hm (by omega)) (fun z2 => ?_) (fun z2 => ?_)
      · rw [z43, c1, z100] at z2
        exact b_Mo_binarySort_249 (k250 _ bi 0 hbi z43 (eq 0 (by rw [if_pos (Or.inr z2)]; decide)))
      · rw [z43, c1, z100] at z2
        exact b_Mo_binarySort_245 (k250 _ bi 1 hbi z43 (eq 1 (by rw [if_neg (fun q => q.elim z z2)]; decide)))
  have k140 : ∀ (ok bi : Int32), (bi = if mBits x then 1 else 0) → (ok = if mFits a b x then 1 else 0) → zW l Gr (zc n w) 168 M_Mo_binarySort (d + 2) 140 [some (.ref 105), some (.int (nI j)), some (.int x), some (.int a), none, none, some (.int bi), none] [.int ok] T (fun v T' => v = none ∧ T' = G) := fun ok bi hbi hok => by
    refine b_Mo_binarySort_140 (fun z => ?_) (fun z => b_Mo_binarySort_147 hg hin (wm_fail h7) (fun A eA => b_Mo_binarySort_158 ⟨rfl, ?_⟩))
    · have hf : mFits a b x := by
        by_cases y : mFits a b x
        · exact y
        · rw [if_neg y] at hok; exact absurd hok z
      have k171 : x = 12 ∨ x = 13 → zW l Gr (zc n w) 168 M_Mo_binarySort (d + 2) 171 [some (.ref 105), some (.int (nI j)), some (.int x), some (.int a), none, none, some (.int bi), none] [] T (fun v T' => v = none ∧ T' = G) := fun ho => by
        refine b_Mo_binarySort_171 hg (wm_mpub hg h43 hm) (fun A eA => ?_)
        rw [eA]
        have g1 : (mPb T (m + 1)).1 73 43 - 1 = nI (m + 1) := by rw [mPb_c (by omega)]; exact e1
        refine b_Mo_binarySort_175 (by rw [g1]; exact vp_in_nI hm (by omega)) hin ?_
        rw [g1, c1, ec, mPb_c (c := 99) (by omega)]
        refine k192 _ bi hbi hf ?_
        unfold mBi
        rw [← ex, if_pos ho]
      refine b_Mo_binarySort_159 (fun y => k171 (Or.inl y)) (fun y => b_Mo_binarySort_165 (fun y2 => k192 T bi hbi hf ?_) (fun y2 => k171 (Or.inr y2)))
      unfold mBi
      rw [← ex, if_neg (fun q => q.elim y y2)]
    · have hf : ¬ mFits a b x := fun y => by
        rw [if_pos y, z] at hok
        exact absurd hok (by decide)
      rw [eA, ec, eG, if_neg hf]
  have k81 : ∀ (sa bi : Int32), (sa = if mSame x then 1 else 0) → (bi = if mBits x then 1 else 0) → zW l Gr (zc n w) 168 M_Mo_binarySort (d + 2) 81 [some (.ref 105), some (.int (nI j)), some (.int x), some (.int a), some (.int b), some (.int sa), none, none] [.int bi] T (fun v T' => v = none ∧ T' = G) := fun sa bi hsa hbi => by
    refine b_Mo_binarySort_81 (fun z => ?_) (fun z => ?_)
    · have ns : ¬ mSame x := fun y => by rw [if_pos y, z] at hsa; exact absurd hsa (by decide)
      refine b_Mo_binarySort_102 (fun y => ?_) (fun y => ?_)
      · have nb : ¬ mBits x := fun q => by rw [if_pos q, y] at hbi; exact absurd hbi (by decide)
        have no : ¬ (a = 0 ∧ b = 0) → ¬ mFits a b x := fun hn q => q.elim (fun q => ns q.1) (fun q => q.elim (fun q => nb q.2.1) (fun q => hn q.2.2))
        refine b_Mo_binarySort_126 (fun q => b_Mo_binarySort_139 (k140 0 bi hbi (by rw [if_neg (no (fun r => q r.1))]))) (fun q => b_Mo_binarySort_130 (fun q2 => b_Mo_binarySort_139 (k140 0 bi hbi (by rw [if_neg (no (fun r => q2 r.2))]))) (fun q2 => b_Mo_binarySort_135 (k140 1 bi hbi (by rw [if_pos (Or.inr (Or.inr ⟨ns, nb, q, q2⟩))]))))
      · have yb : mBits x := by
          by_cases q : mBits x
          · exact q
          · rw [if_neg q] at hbi; exact absurd hbi y
        have no : ¬ (a = 1 ∧ b = 1) → ¬ mFits a b x := fun hn q => q.elim (fun q => ns q.1) (fun q => q.elim (fun q => hn q.2.2) (fun q => q.2.1 yb))
        refine b_Mo_binarySort_107 (fun q => b_Mo_binarySort_122 (k140 0 bi hbi (by rw [if_neg (no (fun r => q r.1))]))) (fun q => b_Mo_binarySort_112 (fun q2 => b_Mo_binarySort_122 (k140 0 bi hbi (by rw [if_neg (no (fun r => q2 r.2))]))) (fun q2 => b_Mo_binarySort_118 (k140 1 bi hbi (by rw [if_pos (Or.inr (Or.inl ⟨ns, yb, q, q2⟩))]))))
    · have ys : mSame x := by
        by_cases q : mSame x
        · exact q
        · rw [if_neg q] at hsa; exact absurd hsa z
      refine b_Mo_binarySort_88 (fun q => b_Mo_binarySort_98 (k140 0 bi hbi ?_)) (fun q => b_Mo_binarySort_94 (k140 1 bi hbi ?_))
      · rw [if_neg (fun r => r.elim (fun r => q r.2) (fun r => r.elim (fun r => r.1 ys) (fun r => r.1 ys)))]
      · rw [if_pos (Or.inl ⟨ys, q⟩)]
  have k64 : ∀ (sa : Int32), (sa = if mSame x then 1 else 0) → zW l Gr (zc n w) 168 M_Mo_binarySort (d + 2) 64 [some (.ref 105), some (.int (nI j)), some (.int x), some (.int a), some (.int b), none, none, none] [.int sa] T (fun v T' => v = none ∧ T' = G) := fun sa hsa =>
    b_Mo_binarySort_64 (fun z => b_Mo_binarySort_76 (k81 sa 1 hsa (by rw [if_pos (Or.inl z)]))) (fun z => b_Mo_binarySort_71 (fun z2 => b_Mo_binarySort_80 (k81 sa 0 hsa (by rw [if_neg (fun q => q.elim z z2)]))) (fun z2 => b_Mo_binarySort_76 (k81 sa 1 hsa (by rw [if_pos (Or.inr z2)]))))
  have ks : mSame x → zW l Gr (zc n w) 168 M_Mo_binarySort (d + 2) 59 [some (.ref 105), some (.int (nI j)), some (.int x), some (.int a), some (.int b), none, none, none] [] T (fun v T' => v = none ∧ T' = G) := fun hs => b_Mo_binarySort_59 (k64 1 (by rw [if_pos hs]))
  refine e_Mo_binarySort (b_Mo_binarySort_0 hin (by rw [e2]; exact vp_in_nI (by omega) (by omega)) (by rw [e1]; exact vp_in_nI hm (by omega)) (fun z => ?_) (fun z => ?_))
  · rw [ec, ← ex] at z
    rw [ec, e2, e1, c0, c1, ← ex, ← ea, ← eb]
    exact ks (Or.inl z)
  · rw [ec, ← ex] at z
    rw [ec, e2, e1, c0, c1, ← ex, ← ea, ← eb]
    refine b_Mo_binarySort_37 (fun z4 => ks (Or.inr (Or.inl z4))) (fun z4 => b_Mo_binarySort_42 (fun z5 => ks (Or.inr (Or.inr (Or.inl z5)))) (fun z5 => b_Mo_binarySort_47 (fun z6 => ks (Or.inr (Or.inr (Or.inr (Or.inl z6))))) (fun z6 => b_Mo_binarySort_53 (fun z7 => b_Mo_binarySort_63 (k64 0 ?_)) (fun z7 => ks (Or.inr (Or.inr (Or.inr (Or.inr z7))))))))
    rw [if_neg (fun q => q.elim z (fun q => q.elim z4 (fun q => q.elim z5 (fun q => q.elim z6 z7))))]
def mSe (T : zS) (m j : Nat) : zS := zi (zi (zi (zi T 73 43 (nI (m + 1))) 98 m (T.1 98 (m + 1))) 100 m (if T.1 100 m = 0 ∨ T.1 100 (m + 1) = 0 ∨ T.1 100 (m + 2) = 0 then 0 else 1)) 80 j (T.1 98 (m + 1))
theorem wm_sel (hg : ip_gk (lg_tbl, vwCl, Gr)) (h7 : T.1 73 7 = 0) (hj : j < 12000) (h43 : T.1 73 43 = nI (m + 3)) (hm : m + 2 < 4200) : zMv l Gr (zc n w) 168 M_Mo_selectSort (d + 2) [.ref 105, .int (nI j)] T (fun T' => T' = if T.1 98 m = 1 ∧ T.1 98 (m + 1) = T.1 98 (m + 2) then mSe T m j else mF T 5 (T.1 81 j)) := by
  have hin : vp_in (nI j) 12000 := vp_in_nI hj (by omega)
  have ec : (nI j).toNatClampNeg = j := nI_clamp (by omega)
  have e1 : T.1 73 43 - 1 = nI (m + 2) := by rw [h43]; exact nI_pred (m + 2)
  have e2 : T.1 73 43 - 2 = nI (m + 1) := by rw [h43]; show nI (m + 3) - nI 2 = _; rw [pk_sub (by omega)]; rfl
  have e3 : T.1 73 43 - 3 = nI m := by rw [h43]; show nI (m + 3) - nI 3 = _; rw [pk_sub (by omega)]; rfl
  have e4 : T.1 73 43 - 2 - 1 = nI m := by rw [e2]; exact nI_pred m
  have c2 : (nI (m + 2)).toNatClampNeg = m + 2 := nI_clamp (by omega)
  have c1 : (nI (m + 1)).toNatClampNeg = m + 1 := nI_clamp (by omega)
  have c0 : (nI m).toNatClampNeg = m := nI_clamp (by omega)
  have v3 : vp_in (T.1 73 43 - 3) 4200 := by rw [e3]; exact vp_in_nI (by omega) (by omega)
  have v2 : vp_in (T.1 73 43 - 2) 4200 := by rw [e2]; exact vp_in_nI (by omega) (by omega)
  have v1 : vp_in (T.1 73 43 - 1) 4200 := by rw [e1]; exact vp_in_nI (by omega) (by omega)
  obtain ⟨G, eG⟩ : ∃ G : zS, G = if T.1 98 m = 1 ∧ T.1 98 (m + 1) = T.1 98 (m + 2) then mSe T m j else mF T 5 (T.1 81 j) := ⟨_, rfl⟩
  rw [← eG]
  have bad : ¬ (T.1 98 m = 1 ∧ T.1 98 (m + 1) = T.1 98 (m + 2)) → zW l Gr (zc n w) 168 M_Mo_selectSort (d + 2) 40 [some (.ref 105), some (.int (nI j)), none] [] T (fun v T' => v = none ∧ T' = G) := fun hn =>
    b_Mo_selectSort_40 hg hin (wm_fail h7) (fun A eA => b_Mo_selectSort_51 ⟨rfl, by rw [eA, ec, eG, if_neg hn]⟩)
  refine e_Mo_selectSort (b_Mo_selectSort_0 v3 (fun z => bad (fun q => z ?_)) (fun z => b_Mo_selectSort_15 v2 v1 (fun z2 => ?_) (fun z2 => bad (fun q => z2 ?_))))
  · rw [e3, c0]; exact q.1
  · rw [e3, c0] at z
    rw [e2, e1, c1, c2] at z2
    have k99 : ∀ pb : Int32, (pb &&& 1 = if T.1 100 m = 0 ∨ T.1 100 (m + 1) = 0 ∨ T.1 100 (m + 2) = 0 then 0 else 1) → zW l Gr (zc n w) 168 M_Mo_selectSort (d + 2) 99 [some (.ref 105), some (.int (nI j)), none] [.int pb] T (fun v T' => v = none ∧ T' = G) := fun pb hpb => by
      refine b_Mo_selectSort_99 v2 (by rw [e4]; exact vp_in_nI (by omega) (by omega)) hin ⟨rfl, ?_⟩
      rw [eG, if_pos ⟨z, z2⟩, e4, e2, c0, c1, ec, hpb, zi_k (by omega), zi_c (by decide)]
      rfl
    have n0 : (T.1 100 m = 0 ∨ T.1 100 (m + 1) = 0 ∨ T.1 100 (m + 2) = 0) → zW l Gr (zc n w) 168 M_Mo_selectSort (d + 2) 98 [some (.ref 105), some (.int (nI j)), none] [] T (fun v T' => v = none ∧ T' = G) := fun hn => b_Mo_selectSort_98 (k99 0 (by rw [if_pos hn]; decide))
    refine b_Mo_selectSort_52 v3 (fun y => n0 (Or.inl ?_)) (fun y => b_Mo_selectSort_66 v2 (fun y2 => n0 (Or.inr (Or.inl ?_))) (fun y2 => b_Mo_selectSort_80 v1 (fun y3 => n0 (Or.inr (Or.inr ?_))) (fun y3 => b_Mo_selectSort_94 (k99 1 ?_))))
    · rw [e3, c0] at y; exact y
    · rw [e2, c1] at y2; exact y2
    · rw [e1, c2] at y3; exact y3
    · rw [e3, c0] at y
      rw [e2, c1] at y2
      rw [e1, c2] at y3
      rw [if_neg (fun q => q.elim y (fun q => q.elim y2 y3))]
      decide
  · rw [e2, e1, c1, c2]; exact q.2
end MKA
