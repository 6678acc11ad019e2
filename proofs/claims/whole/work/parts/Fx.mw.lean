/-! mean() beside the reference's build: values, CONSTANTs, steps of mean(), states -/
/-- x's value in T's circuit; where c holds, it is the CONSTANT -/
def V2 (inb : Nat → Nat) (wb : Nat) (c : Prop) (T : zS) (x : Int32) (s : Bool) : Prop := Vk inb wb T x s ∧ (c → x = bC s)
section VTW
variable {α : Type} {T T' T1 : zS} {inb : Nat → Nat} {wb G N : Nat} {x y a h : Int32} {b s t : Bool} {p : CP α} {R : zS → α → Prop} {c c' : Prop}
theorem Vk_bC (hi : ∀ t, inb t = 0 ∨ inb t = 1) : Vk inb wb T (bC s) s := by
  cases s
  · exact (SV_k hi).2.2.2.2.2 T
  · exact (SV_k hi).2.2.2.2.1 T
theorem V2_bC (hi : ∀ t, inb t = 0 ∨ inb t = 1) : V2 inb wb c T (bC s) s := ⟨Vk_bC hi, fun _ => rfl⟩
theorem V2_mo (h : V2 inb wb c T x s) (hc : c' → c) : V2 inb wb c' T x s := ⟨h.1, fun q => h.2 (hc q)⟩
theorem SV_2 (hi : ∀ t, inb t = 0 ∨ inb t = 1) : SV (V2 inb wb c) Exk := by
  have k := SV_k (wb := wb) hi
  refine ⟨k.1, k.2.1, fun T T' x s e h => ⟨k.2.2.1 _ _ _ _ e h.1, h.2⟩, fun T x s h => ⟨k.2.2.2.1 _ _ _ h.1, fun q => ?_⟩, fun T => ⟨k.2.2.2.2.1 T, fun _ => rfl⟩, fun T => ⟨k.2.2.2.2.2 T, fun _ => rfl⟩⟩
  rw [h.2 q]
  cases s <;> rfl
theorem mOp_c : mOp b T (bC s) (bC t) = (bC (bop b s t), T) := by
  cases b <;> cases s <;> cases t <;> rfl
theorem mk_run2 (hi : ∀ t, inb t = 0 ∨ inb t = 1) (hc : cWF (V2 inb wb c) Exk R p T) (h70 : T.1 73 7 = 0) (hd : GdT wb T) (h7 : (p.2 T).2.1 73 7 = 0) : GdT wb (p.2 T).2 ∧ Exk T (p.2 T).2 ∧ R (p.2 T).2 (p.2 T).1 := by
  have key := hc (fun p T => (¬ T.1 73 7 = 0 → Gn T → ¬ (p.2 T).2.1 73 7 = 0) ∧ (T.1 73 7 = 0 → GdT wb T → (p.2 T).2.1 73 7 = 0 → GdT wb (p.2 T).2 ∧ Exk T (p.2 T).2 ∧ R (p.2 T).2 (p.2 T).1)) (fun a T hr => ⟨fun q _ => q, fun _ q _ => ⟨q, Or.inl rfl, hr⟩⟩) (fun b x y k T s t hx hy ih => ?_)
  · exact key.2 h70 hd h7
  · have end_eq : (cOp b x y k).2 T = (k (mOp b T x y).1).2 (mOp b T x y).2 := rfl
    rw [end_eq]
    have cc : c → (mOp b T x y).1 = bC (bop b s t) := fun q => by rw [hx.2 q, hy.2 q, mOp_c]
    refine ⟨fun q hn => ?_, fun q hd q7 => ?_⟩
    · have gw := gw_op (b := b) (x := x) (y := y) hn
      have f' : ¬ (mOp b T x y).2.1 73 7 = 0 := by
        obtain ⟨g, g', -, -, -, -, -, -, a7⟩ := gw
        exact a7 q
      exact (ih (mOp b T x y).2 (mOp b T x y).1 (Or.inr gw) ⟨fun z => absurd z f', cc⟩).1 f' (Gw_n gw)
    · have hn : Gn T := by
        obtain ⟨-, -, -, G, hG, e, -⟩ := hd
        exact ⟨G, hG, e⟩
      have gw := gw_op (b := b) (x := x) (y := y) hn
      have r := ih (mOp b T x y).2 (mOp b T x y).1 (Or.inr gw) ⟨vk_op hi hd q hx.1 hy.1, cc⟩
      by_cases z : (mOp b T x y).2.1 73 7 = 0
      · obtain ⟨vx, -⟩ := hx.1 q hd.2.1 hd.2.2.1
        obtain ⟨vy, -⟩ := hy.1 q hd.2.1 hd.2.2.1
        obtain ⟨r1, r2, r3⟩ := r.2 z (gd_op hd vx vy z) q7
        refine ⟨r1, ?_, r3⟩
        rcases r2 with e | e
        · rw [e]
          exact Or.inr gw
        · exact Or.inr (Gw_tr gw e)
      · exact absurd q7 (r.1 z (Gw_n gw))
theorem Gd_n (hd : GdT wb T) : Gn T := by
  obtain ⟨-, -, -, G, hG, e, -⟩ := hd
  exact ⟨G, hG, e⟩
theorem Gw_E (hn : Gn T) (h : MEc T T') : Gw T T' := by
  obtain ⟨g, hg, e⟩ := hn
  exact ⟨g, g, Nat.le_refl _, hg, e, (h.1 66 (by omega)).trans e, h.1 65 (by omega), fun c k q1 q2 _ => h.2 c k (by omega), fun q => by rw [h.1 7 (by omega)]; exact q⟩
theorem GM_E (h : MEc T T') (hg : GM T) : GM T' := by
  obtain ⟨⟨g, g1, g2⟩, q, q1, q2⟩ := hg
  exact ⟨⟨g, g1, (h.1 66 (by omega)).trans g2⟩, q, q1, (h.1 94 (by omega)).trans q2⟩
theorem Gd_E (h : MEc T T') (hd : GdT wb T) : GdT wb T' := by
  obtain ⟨⟨m1, iw, m2, m3⟩, h2, h3, G, g1, g2, g3⟩ := hd
  refine ⟨⟨GM_E h m1, iw, m2, (h.1 65 (by omega)).trans m3⟩, (h.1 65 (by omega)).trans h2, h3, G, g1, (h.1 66 (by omega)).trans g2, fun g hg => ?_⟩
  rw [h.2 113 g (by omega), h.2 114 g (by omega)]
  exact g3 g hg
theorem Ex_E (hn : Gn T) (e : Exk T T1) (h : MEc T1 T') : Exk T T' := by
  rcases e with e | e
  · rw [e] at h
    exact Or.inr (Gw_E hn h)
  · exact Or.inr (Gw_tr e (Gw_E (Gw_n e) h))
theorem V2_x (hi : ∀ t, inb t = 0 ∨ inb t = 1) (e : Exk T T') (h : V2 inb wb c T x s) : V2 inb wb c T' x s := (SV_2 hi).2.2.1 _ _ _ _ e h
end VTW

/-! one instruction of mean() -/
def NGo (l : Launch) (Gr : zG) (n w d : Nat) (C : zS) (j : Nat) (C' : zS) (j' : Nat) : Prop := ∀ (Q : Option Value → zS → Prop), zW l Gr (zc n w) 168 M_Mo_mean (d + 3) 17 [some (.ref 105), some (.int (nI j'))] [] C' Q → zW l Gr (zc n w) 168 M_Mo_mean (d + 3) 17 [some (.ref 105), some (.int (nI j))] [] C Q
section NGO
variable {l : Launch} {Gr : zG} {n w d : Nat} {C C1 C2 C' : zS} {R : Int32 → zS → Prop} {j j1 j2 j' N z : Nat}
theorem NGo_rfl : NGo l Gr n w d C j C j := fun _ h => h
theorem NGo_tr (h1 : NGo l Gr n w d C j C1 j1) (h2 : NGo l Gr n w d C1 j1 C2 j2) : NGo l Gr n w d C j C2 j2 := fun Q h => h1 Q (h2 Q h)
theorem ng_o (hg : ip_gk (lg_tbl, vwCl, Gr)) (hj : j < N) (hN : N ≤ 12000) (h13 : C.1 73 13 = nI N) (h78 : C.1 78 j = nI z) (hz : z < 20) (q : zMi l Gr (zc n w) 168 M_Mo_meanOperand (d + 2) [.ref 105, .int (nI j)] C (fun v X => v = nI j' ∧ X = C')) : NGo l Gr n w d C j C' j' := fun Q r => by
  refine b_Mo_mean_17 (fun y => absurd y (by rw [h13]; exact nI_ge hj (by omega))) (fun _ => b_Mo_mean_25 (vp_in_nI (by omega) (by omega)) (fun y => absurd y (by rw [nI_clamp (by omega), h78]; exact nI_ge (a := z) (b := 20) hz (by omega))) (fun _ => b_Mo_mean_36 hg q (fun v X k => ?_)))
  rw [k.1, k.2]
  exact b_Mo_mean_41 (b_Mo_mean_49 r)
theorem ng_s (hg : ip_gk (lg_tbl, vwCl, Gr)) (hj : j < N) (hN : N ≤ 12000) (h13 : C.1 73 13 = nI N) (h78 : C.1 78 j = nI z) (hz : 20 ≤ z) (hz2 : z < 100) (q : zMi l Gr (zc n w) 168 M_Mo_meanStatement (d + 2) [.ref 105, .int (nI j)] C (fun v X => v = nI j' ∧ X = C')) : NGo l Gr n w d C j C' j' := fun Q r => by
  refine b_Mo_mean_17 (fun y => absurd y (by rw [h13]; exact nI_ge hj (by omega))) (fun _ => b_Mo_mean_25 (vp_in_nI (by omega) (by omega)) (fun _ => b_Mo_mean_44 hg q (fun v X k => ?_)) (fun y => absurd (by rw [nI_clamp (by omega), h78]; exact nI_le (a := 20) hz (by omega)) y))
  rw [k.1, k.2]
  exact b_Mo_mean_49 r
end NGO
/-! the states of both runs in an EXPR; act: mean() runs here -/
def MB (T : zS) (wb rf cd hr st : Nat) (B : zS) : Prop := MCo T B ∧ B.1 73 7 = 0 ∧ GdT wb B ∧ B.1 73 85 = nI hr ∧ B.1 73 70 = nI st ∧ st ≤ 100000 ∧ B.1 73 110 = nI cd ∧ (0 < cd → B.1 144 (cd - 1) = nI rf)
/-- the code of mean() -/
def MD (T C : zS) : Prop := C.1 73 13 = T.1 73 13 ∧ (∀ c k, (78 ≤ c ∧ c ≤ 80) ∨ c = 89 ∨ (102 ≤ c ∧ c ≤ 104) → C.1 c k = T.1 c k) ∧ ∀ k, C.2 82 k = T.2 82 k
def MN (T : zS) (rf cd hr : Nat) (C : zS) : Prop := MD T C ∧ C.1 73 115 = nI hr ∧ C.1 73 110 = nI cd ∧ (0 < cd → C.1 144 (cd - 1) = nI rf)
/-- the visible NAMEs have the same values -/
def NV (inb : Nat → Nat) (wb w : Nat) (act : Prop) (Av : Nat → Nat → Prop) (S : zS) (rf hrb : Nat) (B C : zS) : Prop := ∀ e a r z, Av e a → r ≤ 1 → z ≤ 64 → S.1 12 e = nI r → S.1 13 e = nI z →
  (S.1 11 e = 0 → a + max 1 z ≤ 256 ∧ ∀ y, y < max 1 z → ∃ v, v < 2 ^ bw w r ∧ (act → inW C (a + y) = lN v) ∧ ∀ x, x < bw w r → Vk inb wb B (2 * (B.1 117 (a + y) + nI x)) (v.testBit x)) ∧
  (S.1 11 e = 1 → a + max 1 z ≤ 256 ∧ ∀ y, y < max 1 z → ∃ v, v < 2 ^ bw w r ∧ (act → C.2 148 (a + y) = lN v) ∧ ∀ x, x < bw w r → Vk inb wb B (B.1 132 (32 * (a + y) + x)) (v.testBit x)) ∧
  (S.1 11 e = 2 → ∃ v, v < 2 ^ w ∧ B.2 141 a = lN v ∧ (act → C.2 141 a = lN v)) ∧
  (S.1 11 e = 3 → rf + a < hrb ∧ ∃ v, v < 2 ^ bw w r ∧ (act → C.2 147 (rf + a) = lN v) ∧ ∀ x, x < bw w r → Vk inb wb B (B.1 122 (32 * (rf + a) + x)) (v.testBit x))
def MXS (inb : Nat → Nat) (wb w : Nat) (act : Prop) (Av : Nat → Nat → Prop) (S T : zS) (rf cd hrb hr st : Nat) (B C : zS) : Prop := MB T wb rf cd hr st B ∧ (act → MN T rf cd hr C) ∧ hrb ≤ hr ∧ NV inb wb w act Av S rf hrb B C
/-- an operand has the same value -/
def WV (inb : Nat → Nat) (wb w : Nat) (act c : Prop) (r hr : Nat) (B C : zS) : Prop := ∃ v, v < 2 ^ bw w r ∧ (act → C.2 147 hr = lN v) ∧ ∀ x, x < bw w r → V2 inb wb c B (B.1 122 (32 * hr + x)) (v.testBit x)
def WVs (inb : Nat → Nat) (wb w : Nat) (act : Prop) (os : List Nat) (cs : Nat → Prop) (hr : Nat) (B C : zS) : Prop := ∀ t, t < os.length → WV inb wb w act (cs t) (os.getD t 0) (hr + t) B C
/-- what an EXPR may change in mean() -/
def FC (hr cd : Nat) (C C' : zS) : Prop := (∀ c k, ¬ (c = 73 ∧ (k = 110 ∨ k = 115)) → ¬ ((c = 144 ∨ c = 145) ∧ cd ≤ k) → C'.1 c k = C.1 c k) ∧ ∀ c k, ¬ (c = 147 ∧ hr ≤ k) → C'.2 c k = C.2 c k
/-- EXPRs one behind the other in both runs: their operands lie there, with the same values; or build tells a FAULT -/
def OU (l l2 : Launch) (Gr Gr2 : zG) (n w d d2 : Nat) (inb : Nat → Nat) (wb : Nat) (act : Prop) (Av : Nat → Nat → Prop) (S T : zS) (rf cd hrb : Nat) (os : List Nat) (cs : Nat → Prop) (j j' hr st : Nat) (B C : zS) : Prop := (∃ B' C' st', st ≤ st' ∧ MGo l Gr n w d B j B' j' ∧ (act → NGo l2 Gr2 n w d2 C j C' j' ∧ FC hr cd C C') ∧ FM (PXm hr cd) B B' ∧ Exk B B' ∧ MXS inb wb w act Av S T rf cd hrb (hr + os.length) st' B' C' ∧ WVs inb wb w act os cs hr B' C') ∨ ∃ B' j'', MGo l Gr n w d B j B' j'' ∧ ¬ B'.1 73 7 = 0
section OUL
variable {l l2 : Launch} {Gr Gr2 : zG} {n w d d2 : Nat} {inb : Nat → Nat} {wb : Nat} {act c : Prop} {Av : Nat → Nat → Prop} {S T B B' B1 C C' C1 : zS} {rf cd hrb hr hr' hr2 st st' j j' j1 j2 r r1 k z N M : Nat} {os os' : List Nat} {cs cs' : Nat → Prop} {p : CP (Nat → Int32)} {x : Int32} {s : Bool}
theorem FC_rfl : FC hr cd C C := ⟨fun _ _ _ _ => rfl, fun _ _ _ => rfl⟩
theorem FC_tr (h1 : FC hr cd C C1) (h2 : FC hr' cd C1 C') (q : hr ≤ hr') : FC hr cd C C' := ⟨fun c k q1 q2 => (h2.1 c k q1 q2).trans (h1.1 c k q1 q2), fun c k q1 => (h2.2 c k (by omega)).trans (h1.2 c k q1)⟩
theorem MD_C (h : MD T C) (f : FC hr cd C C') : MD T C' := ⟨(f.1 73 13 (by omega) (by omega)).trans h.1, fun c k q => (f.1 c k (by omega) (by omega)).trans (h.2.1 c k q), fun k => (f.2 82 k (by omega)).trans (h.2.2 k)⟩
theorem inW_C (f : FC hr cd C C') (a : Nat) : inW C' a = inW C a := by
  unfold inW
  rw [f.1 73 124 (by omega) (by omega), f.2 118 a (by omega), f.2 119 a (by omega)]
theorem Vk_x (hi : ∀ t, inb t = 0 ∨ inb t = 1) (e : Exk B B') (h : Vk inb wb B x s) : Vk inb wb B' x s := (SV_k hi).2.2.1 _ _ _ _ e h
theorem NV_k (hw1 : 1 ≤ w) (hw : w ≤ 32) (hi : ∀ t, inb t = 0 ∨ inb t = 1) (h : NV inb wb w act Av S rf hrb B C) (g : FM (PXm hr cd) B B') (e : Exk B B') (f : act → FC hr' cd C C') (q : hrb ≤ hr) (q' : hrb ≤ hr') : NV inb wb w act Av S rf hrb B' C' := by
  intro e' a r z h1 h2 h3 h4 h5
  obtain ⟨k0, k1, k2, k3⟩ := h e' a r z h1 h2 h3 h4 h5
  have g117 : ∀ x, B'.1 117 x = B.1 117 x := fun x => g.1 117 x (by omega) (by omega) (by unfold PXm; omega)
  have g132 : ∀ x, B'.1 132 x = B.1 132 x := fun x => g.1 132 x (by omega) (by omega) (by unfold PXm; omega)
  have b1 := bw_le (w := w) (r := r) hw1
  refine ⟨fun y => ⟨(k0 y).1, fun u hu => ?_⟩, fun y => ⟨(k1 y).1, fun u hu => ?_⟩, fun y => ?_, fun y => ⟨(k3 y).1, ?_⟩⟩
  · obtain ⟨v, v1, v2, v3⟩ := (k0 y).2 u hu
    exact ⟨v, v1, fun t => by rw [inW_C (f t)]; exact v2 t, fun x hx => by rw [g117]; exact Vk_x hi e (v3 x hx)⟩
  · obtain ⟨v, v1, v2, v3⟩ := (k1 y).2 u hu
    exact ⟨v, v1, fun t => by rw [(f t).2 148 _ (by omega)]; exact v2 t, fun x hx => by rw [g132]; exact Vk_x hi e (v3 x hx)⟩
  · obtain ⟨v, v1, v2, v3⟩ := k2 y
    exact ⟨v, v1, by rw [g.2]; exact v2, fun t => by rw [(f t).2 141 _ (by omega)]; exact v3 t⟩
  · obtain ⟨l1, v, v1, v2, v3⟩ := k3 y
    exact ⟨v, v1, fun t => by rw [(f t).2 147 _ (by omega)]; exact v2 t, fun x hx => by rw [g.1 122 _ (by omega) (by omega) (by unfold PXm; omega)]; exact Vk_x hi e (v3 x hx)⟩
theorem WV_k (hw1 : 1 ≤ w) (hw : w ≤ 32) (hi : ∀ t, inb t = 0 ∨ inb t = 1) (h : WV inb wb w act c r hr B C) (g : FM (PXm hr' cd) B B') (e : Exk B B') (f : act → FC hr' cd C C') (q : hr < hr') : WV inb wb w act c r hr B' C' := by
  obtain ⟨v, v1, v2, v3⟩ := h
  have b1 := bw_le (w := w) (r := r) hw1
  exact ⟨v, v1, fun t => by rw [(f t).2 147 _ (by omega)]; exact v2 t, fun x hx => by rw [g.1 122 _ (by omega) (by omega) (by unfold PXm; omega)]; exact V2_x hi e (v3 x hx)⟩
theorem WV_mo {c' : Prop} (h : WV inb wb w act c r hr B C) (hc : c' → c) : WV inb wb w act c' r hr B C := by
  obtain ⟨v, v1, v2, v3⟩ := h
  exact ⟨v, v1, v2, fun x hx => V2_mo (v3 x hx) hc⟩
theorem Ex_tr (h1 : Exk B B1) (h2 : Exk B1 B') : Exk B B' := (SV_k (inb := fun _ => 0) (wb := 0) (fun _ => Or.inl rfl)).2.1 _ _ _ h1 h2
theorem Ex_rfl : Exk B B := Or.inl rfl
theorem OU_nil (h : MXS inb wb w act Av S T rf cd hrb hr st B C) : OU l l2 Gr Gr2 n w d d2 inb wb act Av S T rf cd hrb [] cs j j hr st B C := Or.inl ⟨B, C, st, Nat.le_refl _, MGo_rfl, fun _ => ⟨NGo_rfl, FC_rfl⟩, FM_rfl, Ex_rfl, h, fun t ht => absurd ht (by show ¬ t < 0; omega)⟩
theorem OU_seq (h1 : OU l l2 Gr Gr2 n w d d2 inb wb act Av S T rf cd hrb os cs j j1 hr st B C) (h2 : ∀ B1 C1 st1, MXS inb wb w act Av S T rf cd hrb (hr + os.length) st1 B1 C1 → WVs inb wb w act os cs hr B1 C1 → OU l l2 Gr Gr2 n w d d2 inb wb act Av S T rf cd hrb os' cs' j1 j2 hr st1 B1 C1) : OU l l2 Gr Gr2 n w d d2 inb wb act Av S T rf cd hrb os' cs' j j2 hr st B C := by
  rcases h1 with ⟨B1, C1, st1, s1, m1, n1, f1, e1, x1, o1⟩ | ⟨B1, j3, m1, z1⟩
  · rcases h2 B1 C1 st1 x1 o1 with ⟨B2, C2, st2, s2, m2, n2, f2, e2, x2, o2⟩ | ⟨B2, j3, m2, z2⟩
    · exact Or.inl ⟨B2, C2, st2, by omega, MGo_tr m1 m2, fun t => ⟨NGo_tr (n1 t).1 (n2 t).1, FC_tr (n1 t).2 (n2 t).2 (Nat.le_refl _)⟩, FXm_tr f1 f2 (Nat.le_refl _), Ex_tr e1 e2, x2, o2⟩
    · exact Or.inr ⟨B2, j3, MGo_tr m1 m2, z2⟩
  · exact Or.inr ⟨B1, j3, m1, z1⟩
theorem OU_app (hw1 : 1 ≤ w) (hw : w ≤ 32) (hi : ∀ t, inb t = 0 ∨ inb t = 1) (h1 : OU l l2 Gr Gr2 n w d d2 inb wb act Av S T rf cd hrb os cs j j1 hr st B C) (hc : cs os.length → c) (h2 : ∀ B1 C1 st1, MXS inb wb w act Av S T rf cd hrb (hr + os.length) st1 B1 C1 → OU l l2 Gr Gr2 n w d d2 inb wb act Av S T rf cd hrb [r] (fun _ => c) j1 j2 (hr + os.length) st1 B1 C1) : OU l l2 Gr Gr2 n w d d2 inb wb act Av S T rf cd hrb (os ++ [r]) cs j j2 hr st B C := by
  rcases h1 with ⟨B1, C1, st1, s1, m1, n1, f1, e1, x1, o1⟩ | ⟨B1, j3, m1, z1⟩
  · rcases h2 B1 C1 st1 x1 with ⟨B2, C2, st2, s2, m2, n2, f2, e2, x2, o2⟩ | ⟨B2, j3, m2, z2⟩
    · refine Or.inl ⟨B2, C2, st2, by omega, MGo_tr m1 m2, fun t => ⟨NGo_tr (n1 t).1 (n2 t).1, FC_tr (n1 t).2 (n2 t).2 (by omega)⟩, FXm_tr f1 f2 (by omega), Ex_tr e1 e2, ?_, fun t ht => ?_⟩
      · rw [List.length_append, ← Nat.add_assoc]
        exact x2
      · rw [List.length_append, show [r].length = 1 from rfl] at ht
        by_cases z : t < os.length
        · rw [gd_l z]
          exact WV_k hw1 hw hi (o1 t z) f2 e2 (fun t => (n2 t).2) (by omega)
        · have e : t = os.length := by omega
          subst e
          rw [gd_r]
          exact WV_mo (o2 0 (Nat.succ_pos _)) hc
    · exact Or.inr ⟨B2, j3, MGo_tr m1 m2, z2⟩
  · exact Or.inr ⟨B1, j3, m1, z1⟩
theorem MB_k (h : MB T wb rf cd hr st B) (g : FM (PXm hr' cd) B B') (h7 : B'.1 73 7 = 0) (hd : GdT wb B') (h85 : B'.1 73 85 = nI hr2) (h70 : B'.1 73 70 = nI st') (hs : st' ≤ 100000) : MB T wb rf cd hr2 st' B' := by
  obtain ⟨b1, b2, b3, b4, b5, b6, b7, b8⟩ := h
  exact ⟨MCo_K b1 (KBm_F g), h7, hd, h85, h70, hs, (g.1 73 110 (by omega) (by omega) (by unfold PXm; omega)).trans b7, fun q => (g.1 144 _ (by omega) (by omega) (by unfold PXm; omega)).trans (b8 q)⟩
theorem MN_k (h : MN T rf cd hr C) (f : FC hr' cd C C') (h115 : C'.1 73 115 = nI hr2) (h110 : C'.1 73 110 = nI cd) : MN T rf cd hr2 C' := ⟨MD_C h.1 f, h115, h110, fun q => (f.1 144 _ (by omega) (by omega)).trans (h.2.2.2 q)⟩
/-- the last instruction of an EXPR: build runs a program, mean() reckons the word -/
theorem OU_fin {v : Nat} (hw1 : 1 ≤ w) (hw : w ≤ 32) (hi : ∀ t, inb t = 0 ∨ inb t = 1) (h : MXS inb wb w act Av S T rf cd hrb (hr + k) st B C) (hb : hrb ≤ hr) (bm : ∃ B2, MGo l Gr n w d B j B2 j' ∧ OPe (p.2 B).2 B B2 hr (bw w r) (p.2 B).1) (hv : v < 2 ^ bw w r) (hp : cWF (V2 inb wb c) Exk (fun T f => ∀ x, x < bw w r → V2 inb wb c T (f x) (v.testBit x)) p B) (cm : ∃ C2, act → NGo l2 Gr2 n w d2 C j C2 j' ∧ FC hr cd C C2 ∧ C2.1 73 115 = nI (hr + 1) ∧ C2.1 73 110 = C.1 73 110 ∧ C2.2 147 hr = lN v) : OU l l2 Gr Gr2 n w d d2 inb wb act Av S T rf cd hrb [r] (fun _ => c) j j' hr st B C := by
  obtain ⟨B2, m2, M2, G2, h85, hO⟩ := bm
  obtain ⟨C2, cm⟩ := cm
  obtain ⟨hB, hC, hh, hN⟩ := h
  by_cases z : B2.1 73 7 = 0
  · have z' : (p.2 B).2.1 73 7 = 0 := by rw [← M2.1 7 (by omega)]; exact z
    obtain ⟨r1, r2, r3⟩ := mk_run2 hi hp hB.2.1 hB.2.2.1 z'
    have ex : Exk B B2 := Ex_E (Gd_n hB.2.2.1) r2 M2
    have g : FM (PXm hr cd) B B2 := FM_mo G2 (fun _ _ z => PUe_PX z)
    have eX : Exk (p.2 B).2 B2 := Or.inr (Gw_E (Gd_n r1) M2)
    refine Or.inl ⟨B2, C2, st, Nat.le_refl _, m2, fun t => ⟨(cm t).1, (cm t).2.1⟩, g, ex, ⟨MB_k hB g z (Gd_E M2 r1) h85 ((G2.1 73 70 (by omega) (by omega) (by unfold PUe; omega)).trans hB.2.2.2.2.1) hB.2.2.2.2.2.1, fun t => MN_k (hC t) (cm t).2.1 (cm t).2.2.1 ((cm t).2.2.2.1.trans (hC t).2.2.1), by show hrb ≤ hr + 1; omega, NV_k hw1 hw hi hN g ex (fun t => (cm t).2.1) hb hb⟩, fun t ht => ?_⟩
    have e : t = 0 := by
      have : t < 1 := ht
      omega
    subst e
    refine ⟨v, hv, fun t => (cm t).2.2.2.2, fun x hx => ?_⟩
    have hx : x < bw w r := hx
    show V2 inb wb c B2 (B2.1 122 (32 * hr + x)) (v.testBit x)
    rw [hO x hx]
    exact V2_x hi eX (r3 x hx)
  · exact Or.inr ⟨B2, _, m2, z⟩
/-- nothing on both sides -/
theorem OU_pass (hg : ip_gk (lg_tbl, vwCl, Gr)) (hg2 : ip_gk (lg_tbl, vwCl, Gr2)) {M z : Nat} (hM : T.1 73 13 = nI M) (hM2 : M ≤ 12000) (hj : j1 < M) (hT1 : T.1 78 j1 = nI z) (hz : z = 6 ∨ z = 8 ∨ z = 15 ∨ z = 16) (h1 : OU l l2 Gr Gr2 n w d d2 inb wb act Av S T rf cd hrb os cs j j1 hr st B C) : OU l l2 Gr Gr2 n w d d2 inb wb act Av S T rf cd hrb os cs j (j1 + 1) hr st B C := OU_seq h1 (fun B1 C1 st1 x1 o1 => by
  refine Or.inl ⟨B1, C1, st1, Nat.le_refl _, mg_o hg hj hM2 (x1.1.1.1.trans hM) x1.1.2.1 ((x1.1.1.2.1 78 j1 (by omega)).trans hT1) (by omega) (mo_nn (d := d + 5) (by omega) ((x1.1.1.2.1 78 j1 (by omega)).trans hT1) (by omega)), fun t => ⟨?_, FC_rfl⟩, FM_rfl, Ex_rfl, x1, o1⟩
  have hC := (x1.2.1 t).1
  exact ng_o hg2 hj hM2 (hC.1.trans hM) ((hC.2.1 78 j1 (by omega)).trans hT1) (by omega) (mo_nop (d := d2 + 1) (by omega) ((hC.2.1 78 j1 (by omega)).trans hT1) (by omega)))
/-- a STEP -/
theorem OU_step (hg : ip_gk (lg_tbl, vwCl, Gr)) (hg2 : ip_gk (lg_tbl, vwCl, Gr2)) (hw1 : 1 ≤ w) (hw : w ≤ 32) (hi : ∀ t, inb t = 0 ∨ inb t = 1) {M : Nat} (hM : T.1 73 13 = nI M) (hM2 : M ≤ 12000) (hj : j < M) (hT1 : T.1 78 j = 1) (h : MXS inb wb w act Av S T rf cd hrb hr st B C) : OU l l2 Gr Gr2 n w d d2 inb wb act Av S T rf cd hrb [] cs j (j + 1) hr st B C := by
  obtain ⟨hB, hC, hh, hN⟩ := h
  have m3 : B.1 78 j = nI 1 := (hB.1.2.1 78 j (by omega)).trans hT1
  by_cases z : st < 100000
  · have n1 : MGo l Gr n w d B j (zi B 73 70 (nI (st + 1))) (j + 1) := mg_o hg hj hM2 (hB.1.1.trans hM) hB.2.1 m3 (by omega) (mo_1 (d := d + 5) hg (by omega) m3 (wm_step z hB.2.2.2.2.1))
    have g : FM (PXm hr cd) B (zi B 73 70 (nI (st + 1))) := FM_zi (P := PXm hr cd) (Or.inl ⟨rfl, Or.inl rfl⟩)
    have ex : Exk B (zi B 73 70 (nI (st + 1))) := Or.inr (Gw_E (Gd_n hB.2.2.1) MEc_70)
    refine Or.inl ⟨_, C, st + 1, by omega, n1, fun t => ⟨?_, FC_rfl⟩, g, ex, ⟨MB_k hB g (by rw [zi_k (by decide)]; exact hB.2.1) (Gd_E MEc_70 hB.2.2.1) (by rw [zi_k (by decide)]; exact hB.2.2.2.1) (by rw [zi_v]) (by omega), hC, hh, NV_k hw1 hw hi hN g ex (fun _ => FC_rfl) hh hh⟩, fun t ht => absurd ht (by show ¬ t < 0; omega)⟩
    have hC := (hC t).1
    exact ng_o hg2 hj hM2 (hC.1.trans hM) ((hC.2.1 78 j (by omega)).trans hT1) (z := 1) (by omega) (mo_nop (d := d2 + 1) (z := 1) (by omega) ((hC.2.1 78 j (by omega)).trans hT1) (by omega))
  · refine Or.inr ⟨_, _, mg_o hg hj hM2 (hB.1.1.trans hM) hB.2.1 m3 (by omega) (mo_1 (d := d + 5) hg (by omega) m3 (wm_stepX hg hB.2.2.1.1.1 hB.2.1 (by rw [hB.2.2.2.2.1, show st = 100000 by have := hB.2.2.2.2.2.1; omega]))), ?_⟩
    rw [zi_k (by decide), mF_f.1]
    decide
end OUL
