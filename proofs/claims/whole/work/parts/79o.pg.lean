/-! statements on both sides: states, and the reference's loop over them -/
/-- where the NAMEs stand that came in -/
def NS (b : Nat → Int32) (t D : Nat) (S : zS) : Prop := ∀ d, d < D → ∃ s, s ≤ t ∧ S.1 9 d = nI s ∧ S.1 10 d = nI (re pn b t s)
theorem NS_k {b : Nat → Int32} {t D : Nat} {S S' : zS} (h : NS b t D S) (e : ∀ d, d < D → S'.1 9 d = S.1 9 d ∧ S'.1 10 d = S.1 10 d) : NS b t D S' := fun d hd => by
  obtain ⟨s, a1, a2, a3⟩ := h d hd
  exact ⟨s, a1, (e d hd).1.trans a2, (e d hd).2.trans a3⟩
theorem NS_s {b : Nat → Int32} {t D s : Nat} {S : zS} (h : NS b t D S) (hs : s ≤ t) (h1 : S.1 9 D = nI s) (h2 : S.1 10 D = nI (re pn b t s)) : NS b t (D + 1) S := fun d hd => by
  by_cases z : d < D
  · exact h d z
  · rw [show d = D by omega]
    exact ⟨s, hs, h1, h2⟩
theorem NS_S {b : Nat → Int32} {t D s : Nat} {S S' : zS} (h : NS b t D S) (e : nmS S S' D) (hs : s ≤ t) (h1 : S'.1 9 D = nI s) (h2 : S'.1 10 D = nI (re pn b t s)) : NS b t (D + 1) S' := NS_s (NS_k h (fun d hd => ⟨(e d hd).1, (e d hd).2.1⟩)) hs h1 h2
theorem nA_10 {S : zS} {D : Nat} {x1 x2 x3 x4 x5 x6 : Int32} : (nA S D x1 x2 x3 x4 x5 x6).1 10 D = x3 := by
  unfold nA
  rw [zi_c (by decide), zi_c (by decide), zi_c (by decide), zi_c (by decide), zi_c (by decide), zi_c (by decide)]
  exact zi_v
def CN (b : Nat → Int32) (t p i D vw : Nat) (S : zS) : Prop := CS b t p i 0 S ∧ S.1 8 1 = nI t ∧ S.1 8 9 = nI D ∧ S.1 34 10 = nI vw ∧ i ≤ p ∧ 5 * D ≤ p ∧ vw ≤ 256 ∧ NS b t D S
def SK (S S' : zS) (i D : Nat) : Prop :=
  cgS S S' 0 i ∧ nmS S S' D ∧ (∀ c k, ¬ (3 ≤ c ∧ c ≤ 7) → ¬ (9 ≤ c ∧ c ≤ 15) → ¬ (34 ≤ c ∧ c ≤ 38) → ¬ (c = 8 ∧ k = 9) → S'.1 c k = S.1 c k) ∧ (∀ k, ¬ k = 9 → ¬ k = 10 → S'.1 34 k = S.1 34 k) ∧ (∀ k, k < 2 → S'.1 38 k = S.1 38 k) ∧ (∀ c k, S'.2 c k = S.2 c k)
/-- a FAULT on the class's side -/
def SB (S S' : zS) (f pl : Int32) : Prop := fz f ∧ S'.1 3 5 = f ∧ S'.1 3 6 = pl ∧ SK S S' 0 0
def HS (b : Nat → Int32) (t q j dp N vw iw p : Nat) (T : zS) : Prop := PC b t q j dp N dp vw iw T ∧ gp b t q = p ∧ bud b t (2 * dp) j 0 N q
def TB (T : zS) (dp : Nat) : Prop := dp = 0 ∨ ¬ T.1 87 (dp - 1) = 12
abbrev pL : zL := [some (.ref 105), some (.int 1), none]
def PX (l : Launch) (Gr : zG) (n w d : Nat) (T T' : zS) : Prop := ∀ Q, zW l Gr (zc n w) 168 M_Mo_program (d + 14) 42 pL [] T' Q → zW l Gr (zc n w) 168 M_Mo_program (d + 14) 42 pL [] T Q
def PZ (l : Launch) (Gr : zG) (n w d : Nat) (b : Nat → Int32) (t : Nat) (T : zS) (f pl : Int32) : Prop := ∃ T', (∀ Q : Option Value → zS → Prop, Q none T' → zW l Gr (zc n w) 168 M_Mo_program (d + 14) 42 pL [] T Q) ∧ T'.1 73 7 = f ∧ T'.1 73 8 = pl ∧ PK b t T T' 0 0
def gT (w dp : Nat) (S T : zS) (ni : Nat → Nat → Prop) (D vw vw' p i i' j j' : Nat) : Prop := ∃ n, n + dp ≤ 31 ∧ gS w S T ni D n vw vw' p i i' j j'
def ST (l : Launch) (Gr : zG) (n w d : Nat) (b : Nat → Int32) (t : Nat) (S' T : zS) (p i p' i' j dp vw vw' iw D' : Nat) : Prop := ∃ T' q' j' N', PX l Gr n w d T T' ∧ HS b t q' j' dp N' vw' iw p' T' ∧ PK b t T T' j dp ∧ gT w dp S' T' (nid b t T') D' vw vw' p i i' j j'
def SOK (l : Launch) (Gr : zG) (n w d : Nat) (b : Nat → Int32) (t : Nat) (S S' : zS) (p i D vw dp p' i' D' vw' : Nat) : Prop := CN b t p' i' D' vw' S' ∧ SK S S' i D ∧ p < p' ∧ D ≤ D' ∧ (i' + p ≤ i + p' ∧ i < i' ∧ hxS S' i i' p p') ∧ ∀ T q j N iw, HS b t q j dp N vw iw p T → TB T dp → ST l Gr n w d b t S' T p i p' i' j dp vw vw' iw D'
def SBD (l : Launch) (Gr : zG) (n w d : Nat) (b : Nat → Int32) (t : Nat) (S S' : zS) (p dp vw : Nat) (f pl : Int32) : Prop := SB S S' f pl ∧ ∀ T q j N iw, HS b t q j dp N vw iw p T → TB T dp → PZ l Gr n w d b t T f pl
def SR (l : Launch) (Gr : zG) (n w d : Nat) (b : Nat → Int32) (t : Nat) (S S' : zS) (p i D vw dp : Nat) : Prop := (∃ p' i' D' vw', SOK l Gr n w d b t S S' p i D vw dp p' i' D' vw') ∨ ∃ f pl, SBD l Gr n w d b t S S' p dp vw f pl
section PG
variable {l : Launch} {Gr : zG} {n w : Nat} {d : Nat} {b : Nat → Int32} {t p i ws dp p' i' q j m N X u k D D' vw iw : Nat} {S S' S'' T T' T'' : zS}
theorem SK_rfl : SK S S i D := ⟨cgS_rfl, fun _ _ => ⟨rfl, rfl, rfl, rfl, rfl, rfl, rfl⟩, fun _ _ _ _ _ _ => rfl, fun _ _ _ => rfl, fun _ _ => rfl, fun _ _ => rfl⟩
theorem SK_tr (h1 : SK S S' i D) (h2 : SK S' S'' i D) : SK S S'' i D := by
  refine ⟨fun k a1 a2 => ?_, fun k hk => ?_, fun c k a1 a2 a3 a4 => (h2.2.2.1 c k a1 a2 a3 a4).trans (h1.2.2.1 c k a1 a2 a3 a4), fun k hk hk2 => (h2.2.2.2.1 k hk hk2).trans (h1.2.2.2.1 k hk hk2), fun k hk => (h2.2.2.2.2.1 k hk).trans (h1.2.2.2.2.1 k hk), fun c k => (h2.2.2.2.2.2 c k).trans (h1.2.2.2.2.2 c k)⟩
  · obtain ⟨x1, x2, x3, x4⟩ := h1.1 k a1 a2
    obtain ⟨y1, y2, y3, y4⟩ := h2.1 k a1 a2
    exact ⟨y1.trans x1, y2.trans x2, y3.trans x3, y4.trans x4⟩
  · obtain ⟨x1, x2, x3, x4, x5, x6, x7⟩ := h1.2.1 k hk
    obtain ⟨y1, y2, y3, y4, y5, y6, y7⟩ := h2.2.1 k hk
    exact ⟨y1.trans x1, y2.trans x2, y3.trans x3, y4.trans x4, y5.trans x5, y6.trans x6, y7.trans x7⟩
theorem SK_le {i' D' : Nat} (h : SK S S' i D) (hi : i' ≤ i) (hD : D' ≤ D) : SK S S' i' D' := ⟨fun k a1 a2 => h.1 k a1 (by omega), fun k hk => h.2.1 k (by omega), h.2.2⟩
theorem SK_0 (h : SK S S' i D) : SK S S' 0 0 := SK_le h (Nat.zero_le _) (Nat.zero_le _)
theorem SK_CK (h : CK S S' i ws) : SK S S' i D :=
  ⟨h.1, fun k _ => ⟨h.2.2.1 9 k (by omega) (by omega), h.2.2.1 10 k (by omega) (by omega), h.2.2.1 11 k (by omega) (by omega), h.2.2.1 12 k (by omega) (by omega), h.2.2.1 13 k (by omega) (by omega), h.2.2.1 14 k (by omega) (by omega), h.2.2.1 15 k (by omega) (by omega)⟩, fun c k a1 _ a3 _ => h.2.2.1 c k a1 a3, fun k hk _ => h.2.2.2.1 k hk, h.2.2.2.2.1, h.2.2.2.2.2⟩
theorem SK_zi {c k : Nat} {v : Int32} (h : (c = 3) ∨ (4 ≤ c ∧ c ≤ 7 ∧ i ≤ k) ∨ (9 ≤ c ∧ c ≤ 15 ∧ D ≤ k) ∨ (c = 8 ∧ k = 9) ∨ (35 ≤ c ∧ c ≤ 37) ∨ (c = 34 ∧ (k = 9 ∨ k = 10)) ∨ (c = 38 ∧ 2 ≤ k)) : SK S (zi S c k v) i D := by
  have g : ∀ c' k', (c' = c → k' = k → False) → (zi S c k v).1 c' k' = S.1 c' k' := fun c' k' h' => by
    rw [zi_get, if_neg (fun z => h' z.1 z.2)]
  exact ⟨fun k' a1 a2 => ⟨g _ _ (by omega), g _ _ (by omega), g _ _ (by omega), g _ _ (by omega)⟩, fun k' hk => ⟨g _ _ (by omega), g _ _ (by omega), g _ _ (by omega), g _ _ (by omega), g _ _ (by omega), g _ _ (by omega), g _ _ (by omega)⟩, fun c' k' h1 h2 h3 h4 => g _ _ (by omega), fun k' hk hk2 => g _ _ (by omega), fun k' hk => g _ _ (by omega), fun _ _ => rfl⟩
theorem SK_nA {D0 : Nat} {x1 x2 x3 x4 x5 x6 : Int32} (h : D ≤ D0) : SK S (nA S D0 x1 x2 x3 x4 x5 x6) i D :=
  SK_tr (SK_tr (SK_tr (SK_tr (SK_tr (SK_tr (SK_tr (SK_zi (by omega)) (SK_zi (by omega))) (SK_zi (by omega))) (SK_zi (by omega))) (SK_zi (by omega))) (SK_zi (by omega))) (SK_zi (by omega))) (SK_zi (by omega))
theorem SK_cA {i0 : Nat} {x1 x2 x3 x4 : Int32} (h : i ≤ i0) : SK S (cA S i0 x1 x2 x3 x4) i D := SK_CK (ws := 0) (CK_cA h)
theorem SK_wS {p : Nat} : SK S (wS b t p S) i D := SK_CK (ws := 0) CK_wS
theorem SB_F {f x : Int32} {S1 : zS} (hf : fz f) (h : SK S S1 0 0) : SB S (cF S1 f x) f x := ⟨hf, cF_f.1, cF_f.2, SK_tr h (SK_CK (ws := 0) CK_cF)⟩
theorem SB_CB {f x : Int32} {S1 : zS} (h : SK S S1 0 0) (hc : CB S1 S' f x) : SB S S' f x := ⟨hc.1, hc.2.1, hc.2.2.1, SK_tr h (SK_CK hc.2.2.2)⟩
theorem SB_tr {f x : Int32} {S1 : zS} (h : SK S S1 0 0) (hc : SB S1 S' f x) : SB S S' f x := ⟨hc.1, hc.2.1, hc.2.2.1, SK_tr h hc.2.2.2⟩
/-- the fields that CN looks at, over a step of the EXPR reader -/
theorem CN_CK {p1 i1 : Nat} (h : CN b t p i D vw S) (hc : CS b t p1 i1 0 S') (hk : CK S S' 0 0) (hi : i1 ≤ p1) (hp : p ≤ p1) : CN b t p1 i1 D vw S' :=
  ⟨hc, (hk.2.2.1 8 1 (by omega) (by omega)).trans h.2.1, (hk.2.2.1 8 9 (by omega) (by omega)).trans h.2.2.1, (hk.2.2.2.1 10 (by omega)).trans h.2.2.2.1, hi, by have := h.2.2.2.2.2.1; omega, h.2.2.2.2.2.2.1, NS_k h.2.2.2.2.2.2.2 (fun d _ => ⟨hk.2.2.1 9 d (by omega) (by omega), hk.2.2.1 10 d (by omega) (by omega)⟩)⟩
theorem PX_rfl : PX l Gr n w d T T := fun _ h => h
theorem PX_tr (h1 : PX l Gr n w d T T') (h2 : PX l Gr n w d T' T'') : PX l Gr n w d T T'' := fun Q h => h1 Q (h2 Q h)
theorem PZ_of {f pl : Int32} (hf : ¬ f = 0) (h1 : PX l Gr n w d T T') (h7 : T'.1 73 7 = f) (h8 : T'.1 73 8 = pl) (hK : PK b t T T' 0 0) : PZ l Gr n w d b t T f pl :=
  ⟨T', fun Q q => h1 Q (b_Mo_program_42 (fun z => absurd z (by decide)) (fun _ => b_Mo_program_46 (fun _ => b_Mo_program_254 q) (fun z => absurd (h7.symm.trans z) hf))), h7, h8, hK⟩
theorem PZ_tr {f pl : Int32} (h1 : PX l Gr n w d T T') (hK : PK b t T T' 0 0) (h : PZ l Gr n w d b t T' f pl) : PZ l Gr n w d b t T f pl := by
  obtain ⟨T2, h2, h7, h8, hK2⟩ := h
  exact ⟨T2, fun Q q => h1 Q (h2 Q q), h7, h8, PK_tr hK hK2⟩
theorem PK_0 (h : PK b t T T' j k) : PK b t T T' 0 0 := PK_le h (Nat.zero_le _) (Nat.zero_le _)
theorem gT_bnd {w dp v v' : Nat} {ni : Nat → Nat → Prop} (h : gT w dp S T ni D v v' p i i' j k) : i < i' ∧ j < k := by
  obtain ⟨n, -, h⟩ := h
  exact gS_bnd n _ _ _ _ _ _ _ h
theorem gT_cong {w dp v v' : Nat} {ni ni' : Nat → Nat → Prop} (hni : ∀ v p, ni v p → ni' v p) (hD : D ≤ D') (hn : nmS S S' D) (h : gT w dp S T ni D v v' p i i' j k) (cs : cgS S S' i i') (ct : cgU T T' j k) : gT w dp S' T' ni' D' v v' p i i' j k := by
  obtain ⟨n, hn1, h⟩ := h
  exact ⟨n, hn1, gS_cong hni hD hn n n v v' p i i' j k (Nat.le_refl _) h cs ct⟩
theorem cgU_rfl {j j' : Nat} : cgU T T j j' := ⟨cgT_rfl, fun _ _ _ => rfl⟩
theorem nmS_rfl : nmS S S D := fun _ _ => ⟨rfl, rfl, rfl, rfl, rfl, rfl, rfl⟩
theorem gS_up {w n n' v v' : Nat} {ni : Nat → Nat → Prop} (hn : n ≤ n') (h : gS w S T ni D n v v' p i i' j k) : gS w S T ni D n' v v' p i i' j k := gS_cong (fun _ _ y => y) (Nat.le_refl _) nmS_rfl n n' v v' p i i' j k hn h cgS_rfl cgU_rfl
theorem gL_up {w dp : Nat} {ni : Nat → Nat → Prop} (hdp : dp ≤ 31) : ∀ m v v' i i' j j', gL (gT w dp S T ni D) m v v' i i' j j' → ∃ n, n + dp ≤ 31 ∧ gL (gS w S T ni D n) m v v' i i' j j'
  | 0, v, v', i, i', j, j', h => ⟨0, by omega, h⟩
  | m + 1, v, v', i, i', j, j', h => by
    obtain ⟨i1, j1, p1, v1, h1, ⟨n2, hn2, h2⟩⟩ := h
    obtain ⟨n1, hn1, h1⟩ := gL_up hdp m _ _ _ _ _ _ h1
    exact ⟨max n1 n2, by omega, i1, j1, p1, v1, gL_cong (S := S) (S' := S) (T := T) (T' := T) (gS_bnd n1) (fun v v' p i i' j j' y _ _ => gS_up (Nat.le_max_left _ _) y) _ _ _ _ _ _ _ h1 cgS_rfl cgU_rfl, gS_up (Nat.le_max_right _ _) h2⟩
theorem gL_nn {w n n' : Nat} {ni : Nat → Nat → Prop} (hn : n ≤ n') {m v v' i i' j j' : Nat} (h : gL (gS w S T ni D n) m v v' i i' j j') : gL (gS w S T ni D n') m v v' i i' j j' :=
  gL_cong (S := S) (S' := S) (T := T) (T' := T) (gS_bnd n) (fun v v' p i i' j j' y _ _ => gS_up hn y) _ _ _ _ _ _ _ h cgS_rfl cgU_rfl
theorem gL_gT {w dp v v' : Nat} {ni ni' : Nat → Nat → Prop} (hni : ∀ v p, ni v p → ni' v p) (hD : D ≤ D') (hn : nmS S S' D) {m : Nat} (h : gL (gT w dp S T ni D) m v v' i i' j k) (cs : cgS S S' i i') (ct : cgU T T' j k) : gL (gT w dp S' T' ni' D') m v v' i i' j k :=
  gL_cong (fun _ _ _ _ _ _ _ y => gT_bnd y) (fun v v' p i i' j j' y c1 c2 => gT_cong hni hD hn y c1 c2) _ _ _ _ _ _ _ h cs ct
theorem gT_set {w dp v : Nat} {ni : Nat → Nat → Prop} (hdp : dp ≤ 30) (h : sSet w S T ni p i i' j k) : gT w dp S T ni D v v p i i' j k := ⟨1, by omega, Or.inl ⟨h, rfl⟩⟩
theorem gT_elt {w dp v : Nat} {ni : Nat → Nat → Prop} (hdp : dp ≤ 30) (h : sElt w S T ni p i i' j k) : gT w dp S T ni D v v p i i' j k := ⟨1, by omega, Or.inr (Or.inl ⟨h, rfl⟩)⟩
theorem gT_var {w dp v v' : Nat} {ni : Nat → Nat → Prop} (hdp : dp ≤ 30) (h : sVar w S T ni D v v' p i i' j k) : gT w dp S T ni D v v' p i i' j k := ⟨1, by omega, Or.inr (Or.inr (Or.inl h))⟩
theorem gT_if {w dp v v' : Nat} {ni : Nat → Nat → Prop} (hdp : dp ≤ 30) (h : sIf w S T ni (gT w (dp + 1) S T ni D) v v' p i i' j k) : gT w dp S T ni D v v' p i i' j k := by
  obtain ⟨p1, i1, j1, k2, i2, j2, k3, i3, j3, vw2, h1, h2, h3, r⟩ := h
  obtain ⟨n2, hn2, h2⟩ := gL_up (by omega) _ _ _ _ _ _ _ h2
  obtain ⟨n3, hn3, h3⟩ := gL_up (by omega) _ _ _ _ _ _ _ h3
  exact ⟨max n2 n3 + 1, by omega, Or.inr (Or.inr (Or.inr (Or.inl ⟨p1, i1, j1, k2, i2, j2, k3, i3, j3, vw2, h1, gL_nn (Nat.le_max_left _ _) h2, gL_nn (Nat.le_max_right _ _) h3, r⟩)))⟩
theorem gT_for {w dp v v' : Nat} {ni : Nat → Nat → Prop} (hdp : dp ≤ 30) (h : sFor w S T ni D (gT w (dp + 1) S T ni D) v v' p i i' j k) : gT w dp S T ni D v v' p i i' j k := by
  obtain ⟨d, v, s, p1, i1, j1, p2, i2, j2, k3, i3, j3, a1, a2, a3, a4, a5, h3, r⟩ := h
  obtain ⟨n3, hn3, h3⟩ := gL_up (by omega) _ _ _ _ _ _ _ h3
  exact ⟨n3 + 1, by omega, Or.inr (Or.inr (Or.inr (Or.inr ⟨d, v, s, p1, i1, j1, p2, i2, j2, k3, i3, j3, a1, a2, a3, a4, a5, h3, r⟩)))⟩
theorem tk_end (h : ¬ p < t) : tk b t p = 0 := by
  unfold tk
  rw [if_neg h]
/-- one turn of the reference's loop -/
theorem pg (hg : ip_gk (lg_tbl, vwCl, Gr)) (ho : ip_old (lg_tbl, vwCl, Gr)) (htx : ∀ k, k < t → tx (b k)) (h : MC b t q j dp m N T) (hgq : gp b t q = p) (h26 : T.1 73 26 = nI k) (hk70 : k ≤ 70) {Q : Option Value → zS → Prop}
    (k0 : p = t → k = 0 → Q none (zi T 73 6 (nI p)))
    (kF : p = t → ¬ k = 0 → Q none (mF (zi T 73 6 (nI p)) 1 (nI p)))
    (kc : tk b t p = 125 → ¬ k = 0 → zW l Gr (zc n w) 168 M_Mo_program (d + 14) 110 pL [] (zi T 73 6 (nI p)) Q)
    (kv : tk b t p = 202 → zW l Gr (zc n w) 168 M_Mo_program (d + 14) 127 [some (.ref 105), some (.int 1), some (.int (nI p))] [] (zi T 73 6 (nI p)) Q)
    (ki : tk b t p = 206 → zW l Gr (zc n w) 168 M_Mo_program (d + 14) 145 [some (.ref 105), some (.int 1), some (.int (nI p))] [] (zi T 73 6 (nI p)) Q)
    (kf : tk b t p = 204 → zW l Gr (zc n w) 168 M_Mo_program (d + 14) 163 [some (.ref 105), some (.int 1), some (.int (nI p))] [] (zi T 73 6 (nI p)) Q)
    (kn : tk b t p = 200 → k = 0 → zW l Gr (zc n w) 168 M_Mo_program (d + 14) 188 [some (.ref 105), some (.int 1), some (.int (nI p))] [] (zi T 73 6 (nI p)) Q)
    (kd : tk b t p = 203 → k = 0 → zW l Gr (zc n w) 168 M_Mo_program (d + 14) 213 [some (.ref 105), some (.int 1), some (.int (nI p))] [] (zi T 73 6 (nI p)) Q)
    (ko : tk b t p = 208 → k = 0 → zW l Gr (zc n w) 168 M_Mo_program (d + 14) 238 [some (.ref 105), some (.int 1), some (.int (nI p))] [] (zi T 73 6 (nI p)) Q)
    (ka : p < t → ¬ (tk b t p = 125 ∧ ¬ k = 0) → ¬ tk b t p = 202 → ¬ tk b t p = 206 → ¬ tk b t p = 204 → ¬ (k = 0 ∧ (tk b t p = 200 ∨ tk b t p = 203 ∨ tk b t p = 208)) → zW l Gr (zc n w) 168 M_Mo_program (d + 14) 246 [some (.ref 105), some (.int 1), some (.int (nI p))] [] (zi T 73 6 (nI p)) Q) : zW l Gr (zc n w) 168 M_Mo_program (d + 14) 42 pL [] T Q := by
  have h1 := MC_p h hgq
  have hp := MC_p2 h1
  have ht := MC_t h1
  have g26 : (zi T 73 6 (nI p)).1 73 26 = nI k := by rw [zi_k (by decide)]; exact h26
  refine b_Mo_program_42 (fun z => absurd z (by decide)) (fun _ => b_Mo_program_46 (fun z => absurd (MC_f h) z) (fun _ => b_Mo_program_53 hg (wm_gap hg h.1) (fun A e => ?_)))
  rw [e, hgq]
  have c26 : ∀ {Q1 : Prop}, (k = 0 → Q1) → (¬ k = 0 → Q1) → Q1 := fun a c => by
    by_cases z : k = 0
    · exact a z
    · exact c z
  refine b_Mo_program_57 (fun z => ?_) (fun z => ?_)
  · rw [MC_6 h1] at z ⊢
    have hpt : p < t := by
      rw [h1.1.1] at z
      exact Nat.lt_of_le_of_ne hp (fun y => z (by rw [y]))
    have n117 : ¬ (tk b t p = 125 ∧ ¬ k = 0) → zW l Gr (zc n w) 168 M_Mo_program (d + 14) 117 [some (.ref 105), some (.int 1), some (.int (nI p))] [] (zi T 73 6 (nI p)) Q := fun n125 => by
      refine b_Mo_program_117 hg ho (wm_isW2 hg ho h1.1) (fun v A hv => ?_)
      rw [hv.1, hv.2]
      have i2 := tk_w htx hp (K := kw2) (c := 202) (fun s => wk_2) (by decide) (by decide)
      by_cases z2 : tk b t p = 202
      · rw [if_pos (i2.mpr z2)]
        exact b_Mo_program_124 (fun z => absurd z (by decide)) (fun _ => kv z2)
      rw [if_neg (fun y => z2 (i2.mp y))]
      refine b_Mo_program_124 (fun _ => b_Mo_program_135 hg ho (wm_isW6 hg ho h1.1) (fun v A hv => ?_)) (fun z => absurd rfl z)
      rw [hv.1, hv.2]
      have i6 := tk_w htx hp (K := kw6) (c := 206) (fun s => wk_6) (by decide) (by decide)
      by_cases z6 : tk b t p = 206
      · rw [if_pos (i6.mpr z6)]
        exact b_Mo_program_142 (fun z => absurd z (by decide)) (fun _ => ki z6)
      rw [if_neg (fun y => z6 (i6.mp y))]
      refine b_Mo_program_142 (fun _ => b_Mo_program_153 hg ho (wm_isW4 hg ho h1.1) (fun v A hv => ?_)) (fun z => absurd rfl z)
      rw [hv.1, hv.2]
      have i4 := tk_w htx hp (K := kw4) (c := 204) (fun s => wk_4) (by decide) (by decide)
      by_cases z4 : tk b t p = 204
      · rw [if_pos (i4.mpr z4)]
        exact b_Mo_program_160 (fun z => absurd z (by decide)) (fun _ => kf z4)
      rw [if_neg (fun y => z4 (i4.mp y))]
      refine b_Mo_program_160 (fun _ => ?_) (fun z => absurd rfl z)
      by_cases zk : k = 0
      · have e0 : (zi T 73 6 (nI p)).1 73 26 = 0 := by rw [g26, zk]; rfl
        have i0 := tk_w htx hp (K := kw0) (c := 200) (fun s => wk_0) (by decide) (by decide)
        have i3 := tk_w htx hp (K := kw3) (c := 203) (fun s => wk_3) (by decide) (by decide)
        have i8 := tk_w htx hp (K := kw8) (c := 208) (fun s => wk_8) (by decide) (by decide)
        refine b_Mo_program_171 (fun z => absurd e0 z) (fun _ => b_Mo_program_178 hg ho (wm_isW0 hg ho h1.1) (fun v A hv => ?_))
        rw [hv.1, hv.2]
        by_cases z0 : tk b t p = 200
        · rw [if_pos (i0.mpr z0)]
          exact b_Mo_program_185 (fun z => absurd z (by decide)) (fun _ => kn z0 zk)
        rw [if_neg (fun y => z0 (i0.mp y))]
        refine b_Mo_program_185 (fun _ => b_Mo_program_196 (fun z => absurd e0 z) (fun _ => b_Mo_program_203 hg ho (wm_isW3 hg ho h1.1) (fun v A hv => ?_))) (fun z => absurd rfl z)
        rw [hv.1, hv.2]
        by_cases z3 : tk b t p = 203
        · rw [if_pos (i3.mpr z3)]
          exact b_Mo_program_210 (fun z => absurd z (by decide)) (fun _ => kd z3 zk)
        rw [if_neg (fun y => z3 (i3.mp y))]
        refine b_Mo_program_210 (fun _ => b_Mo_program_221 (fun z => absurd e0 z) (fun _ => b_Mo_program_228 hg ho (wm_isW8 hg ho h1.1) (fun v A hv => ?_))) (fun z => absurd rfl z)
        rw [hv.1, hv.2]
        by_cases z8 : tk b t p = 208
        · rw [if_pos (i8.mpr z8)]
          exact b_Mo_program_235 (fun z => absurd z (by decide)) (fun _ => ko z8 zk)
        rw [if_neg (fun y => z8 (i8.mp y))]
        exact b_Mo_program_235 (fun _ => ka hpt n125 z2 z6 z4 (fun y => y.2.elim z0 (fun y => y.elim z3 z8))) (fun z => absurd rfl z)
      · have e0 : ¬ (zi T 73 6 (nI p)).1 73 26 = 0 := fun y => zk ((nI_eq (a := k) (b := 0) (by omega) (by omega)).mp (g26.symm.trans y))
        exact b_Mo_program_171 (fun _ => b_Mo_program_196 (fun _ => b_Mo_program_221 (fun _ => ka hpt n125 z2 z6 z4 (fun y => zk y.1)) (fun z => absurd z e0)) (fun z => absurd z e0)) (fun z => absurd z e0)
    refine b_Mo_program_94 hg (wm_isSign hg h1.1) (fun v A hv => ?_)
    rw [hv.1, hv.2]
    by_cases z5 : tk b t p = 125
    · rw [if_pos ((tk_sg htx hp (by decide) (by decide) (by decide)).mpr z5)]
      refine b_Mo_program_100 (fun z => absurd z (by decide)) (fun _ => b_Mo_program_103 (fun y => ?_) (fun y => ?_))
      · rw [g26] at y
        exact n117 (fun x => absurd y (nI_nle (by omega) (by omega)))
      · rw [g26] at y
        exact kc z5 (fun x => y (by rw [x]; exact Int32.le_refl _))
    · rw [if_neg (fun y => z5 ((tk_sg htx hp (by decide) (by decide) (by decide)).mp y))]
      exact b_Mo_program_100 (fun _ => n117 (fun y => z5 y.1)) (fun z => absurd rfl z)
  · rw [MC_6 h1, h1.1.1] at z
    have hpt : p = t := (nI_eq (by omega) (by omega)).mp z
    refine b_Mo_program_73 (fun y => ?_) (fun y => ?_)
    · rw [g26] at y
      refine b_Mo_program_89 (b_Mo_program_251 (b_Mo_program_42 (fun _ => b_Mo_program_254 (k0 hpt ?_)) (fun z => absurd rfl z)))
      by_cases x : k = 0
      · exact x
      · exact absurd y (nI_nle (by omega) (by omega))
    · rw [g26] at y
      refine b_Mo_program_80 hg (wm_fail (MC_f h1)) (fun A e => ?_)
      rw [e, MC_6 h1]
      exact b_Mo_program_89 (b_Mo_program_251 (b_Mo_program_42 (fun _ => b_Mo_program_254 (kF hpt (fun x => y (by rw [x]; exact Int32.le_refl _)))) (fun z => absurd rfl z)))
end PG
