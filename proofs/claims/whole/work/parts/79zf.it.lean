/-! ITEMs on both sides: states; output -/
def iB (S : zS) (a : Nat) : Nat := (S.1 19 a).toNatClampNeg
def iO (S : zS) (a : Nat) : Nat := (S.1 18 a).toNatClampNeg
def iW (S : zS) : Nat → Nat
  | 0 => 0
  | a + 1 => iW S a + iB S a
def iQ (S : zS) (q : Nat) : Nat → Nat
  | 0 => 0
  | a + 1 => iQ S q a + (if iO S a = q then iB S a else 0)
/-- the class's words of inputs -/
def Ic (n w : Nat) (S : zS) (iw : Nat) : Prop := iw ≤ 256 ∧ S.1 17 6 = nI iw ∧ S.1 17 7 = nI (iW S iw) ∧ (∀ a, a < iw → ∃ o bt, o < n ∧ (bt = 1 ∨ bt = w) ∧ S.1 18 a = nI o ∧ S.1 19 a = nI bt ∧ S.1 20 a = nI (iW S a) ∧ S.1 21 a = 0) ∧ ∀ q, q < n → S.1 23 q = nI (iQ S q iw)
def JK (S S' : zS) (i D iw : Nat) : Prop :=
  cgS S S' 0 i ∧ nmS S S' D ∧ (∀ a, a < iw → S'.1 18 a = S.1 18 a ∧ S'.1 19 a = S.1 19 a ∧ S'.1 20 a = S.1 20 a ∧ S'.1 21 a = S.1 21 a) ∧ (∀ c k, ¬ (3 ≤ c ∧ c ≤ 7) → ¬ (9 ≤ c ∧ c ≤ 15) → ¬ (17 ≤ c ∧ c ≤ 23) → ¬ (34 ≤ c ∧ c ≤ 38) → ¬ (c = 8 ∧ k = 9) → S'.1 c k = S.1 c k) ∧ (∀ k, ¬ k = 9 → ¬ k = 10 → S'.1 34 k = S.1 34 k) ∧ (∀ k, k < 2 → S'.1 38 k = S.1 38 k) ∧ (∀ c k, S'.2 c k = S.2 c k)
def sInp (n w : Nat) (S T : zS) (ni : Nat → Nat → Prop) (D i i' j j' iw iw' : Nat) : Prop := ∃ d v s r z o, d < D ∧ ni v s ∧ dcl S d s 0 r z iw ∧ r ≤ 1 ∧ z ≤ 64 ∧ iw' = iw + max 1 z ∧ iw' ≤ 256 ∧ o < n ∧ i' = i + 1 ∧ j' = j + 2 ∧ S.1 4 i = 2 ∧ S.1 5 i = nI d ∧ S.1 6 i = nI s ∧ T.1 78 j = 22 ∧ T.1 79 j = nI v ∧ T.1 81 j = nI s ∧ T.1 78 (j + 1) = 23 ∧ T.1 79 (j + 1) = nI v ∧ T.1 80 (j + 1) = nI r ∧ T.2 82 (j + 1) = lN (256 * o + z) ∧ ∀ a, iw ≤ a → a < iw' → S.1 18 a = nI o ∧ S.1 19 a = nI (if r = 1 then 1 else w)
def sPar (S T : zS) (ni : Nat → Nat → Prop) (d i j a : Nat) : Prop := ∃ x s r, ni x s ∧ r ≤ 1 ∧ dcl S (d + 1 + a) s 3 r 0 a ∧ S.1 4 (i + 1 + a) = 4 ∧ S.1 5 (i + 1 + a) = nI (d + 1 + a) ∧ S.1 6 (i + 1 + a) = nI s ∧ T.1 78 (j + 1 + a) = 27 ∧ T.1 79 (j + 1 + a) = nI x ∧ T.1 80 (j + 1 + a) = nI r ∧ T.1 81 (j + 1 + a) = nI s
def sDef (w : Nat) (S T : zS) (ni : Nat → Nat → Prop) (Dl D i i' j j' : Nat) : Prop := ∃ d v s r k pe i1 j1, (d = Dl ∧ D = Dl + 1 + k) ∧ ni v s ∧ dcl S d s 4 r 0 (i + 1 + k) ∧ S.1 15 d = nI k ∧ r ≤ 1 ∧ (∀ a, a < k → sPar S T ni d i j a) ∧ gX w S T ni pe (i + 1 + k) i1 (j + 2 + k) j1 ∧ i' = i1 + 1 ∧ j' = j1 + 1 ∧ S.1 4 i = 3 ∧ S.1 5 i = nI d ∧ S.1 6 i = nI s ∧ S.1 7 i = nI (i1 + 1) ∧ S.1 4 i1 = 5 ∧ S.1 5 i1 = nI d ∧ S.1 6 i1 = nI pe ∧ T.1 78 j = 26 ∧ T.1 79 j = nI v ∧ T.1 80 j = nI k ∧ T.1 81 j = nI s ∧ T.2 82 j = lN j1 ∧ T.1 78 (j + 1 + k) = 28 ∧ T.1 78 j1 = 29 ∧ T.1 79 j1 = nI v ∧ T.1 80 j1 = nI r
def sOut (w : Nat) (S T : zS) (ni : Nat → Nat → Prop) (p i i' j j' : Nat) : Prop := ∃ pe i1 j1, gX w S T ni pe (i + 1) i1 (j + 1) j1 ∧ i' = i1 + 1 ∧ j' = j1 + 2 ∧ S.1 4 i = 1 ∧ S.1 6 i = nI p ∧ S.1 4 i1 = 13 ∧ S.1 6 i1 = nI pe ∧ T.1 78 j = 20 ∧ T.1 81 j = nI p ∧ T.1 78 j1 = 30 ∧ T.1 78 (j1 + 1) = 21
def gJ (n w : Nat) (S T : zS) (ni : Nat → Nat → Prop) (Dl D vw vw' p i i' j j' iw iw' : Nat) : Prop := (gT w 0 S T ni D vw vw' p i i' j j' ∧ iw' = iw ∧ Dl ≤ D) ∨ (sInp n w S T ni D i i' j j' iw iw' ∧ vw' = vw ∧ Dl ≤ D) ∨ (sDef w S T ni Dl D i i' j j' ∧ iw' = iw ∧ vw' = vw) ∨ (sOut w S T ni p i i' j j' ∧ iw' = iw ∧ vw' = vw ∧ Dl ≤ D)
/-- how many bytes a def, an output has -/
def lnI (S : zS) (i i' p p' : Nat) : Prop := (S.1 4 i = 3 → p + 14 ≤ p') ∧ (S.1 4 (i' - 1) = 13 → p + 9 ≤ p')
theorem gS_ln {w : Nat} {S T : zS} {ni : Nat → Nat → Prop} {D : Nat} : ∀ n v v' p i i' j j', gS w S T ni D n v v' p i i' j j' → S.1 4 i = 1 ∧ ¬ S.1 4 (i' - 1) = 13
  | 0, _, _, _, _, _, _, _, h => h.elim
  | n + 1, v, v', p, i, i', j, j', h => by
    rcases h with h | h | h | h | h
    · obtain ⟨⟨v, p1, i1, j1, -, h1, e1, e2, f1, f2, f3, f4, f5, -⟩, -⟩ := h
      exact ⟨f1, by rw [e1, Nat.add_sub_cancel, f5]; decide⟩
    · obtain ⟨⟨v, p1, i1, j1, p2, i2, j2, -, h1, h2, e1, e2, f1, f2, f3, f4, f5, f6, f7, f8, -⟩, -⟩ := h
      exact ⟨f1, by rw [e1, Nat.add_sub_cancel, f8]; decide⟩
    · obtain ⟨d, v, s, r, z, o, j1, -, -, -, -, -, -, e2, f1, -, -, -, -, -, -, -, -, -, -, -, -, -, -, h⟩ := h
      rcases h with ⟨p1, i1, h1, e1, g1, -⟩ | ⟨e0, e1, g1, -⟩
      · exact ⟨f1, by rw [e1, Nat.add_sub_cancel, g1]; decide⟩
      · exact ⟨f1, by rw [e1, show i + 3 - 1 = i + 2 from rfl, g1]; decide⟩
    · obtain ⟨p1, i1, j1, k2, i2, j2, k3, i3, j3, vw2, h1, h2, h3, e1, e2, f1, f2, f3, f4, f5, f6, f7, -⟩ := h
      exact ⟨f1, by rw [e1, Nat.add_sub_cancel, f7]; decide⟩
    · obtain ⟨d, v, s, p1, i1, j1, p2, i2, j2, k3, i3, j3, -, -, -, h1, h2, h3, e1, e2, f1, f2, f3, f4, f5, f6, f7, f8, f9, f10, f11, f12, f13, f14, -⟩ := h
      exact ⟨f1, by rw [e1, Nat.add_sub_cancel, f14]; decide⟩
def gP (n w : Nat) (S T : zS) (ni : Nat → Nat → Prop) : Nat → Nat → Nat → Nat → Nat → Nat → Nat → Prop
  | 0, i, j, iw, vw, D, _ => i = 0 ∧ j = 0 ∧ iw = 0 ∧ vw = 0 ∧ D = 0
  | k + 1, i, j, iw, vw, D, p' => ∃ i0 j0 iw0 vw0 D0 p, gP n w S T ni k i0 j0 iw0 vw0 D0 p ∧ gJ n w S T ni D0 D vw0 vw p i0 i j0 j iw0 iw ∧ hxS S i0 i p p' ∧ p < p' ∧ 5 * D ≤ p' ∧ lnI S i0 i p p'
def JT (l : Launch) (Gr : zG) (n w d : Nat) (b : Nat → Int32) (t : Nat) (S' T : zS) (p i p' i' j vw vw' D D' iw iw' : Nat) : Prop := ∃ T' q' j' N', PX l Gr n w d T T' ∧ HS b t q' j' 0 N' vw' iw' p' T' ∧ PK b t T T' j 0 ∧ gJ n w S' T' (nid b t T') D D' vw vw' p i i' j j' iw iw' ∧ lnI S' i i' p p'
def JOK (l : Launch) (Gr : zG) (n w d : Nat) (b : Nat → Int32) (t : Nat) (S S' : zS) (p i D vw iw p' i' D' vw' iw' : Nat) : Prop := CN b t p' i' D' vw' S' ∧ Ic n w S' iw' ∧ JK S S' i D iw ∧ p < p' ∧ D ≤ D' ∧ (i' + p ≤ i + p' ∧ i < i' ∧ hxS S' i i' p p') ∧ iw ≤ iw' ∧ ∀ T q j N, HS b t q j 0 N vw iw p T → JT l Gr n w d b t S' T p i p' i' j vw vw' D D' iw iw'
def JB (S S' : zS) (f pl : Int32) : Prop := fz f ∧ S'.1 3 5 = f ∧ S'.1 3 6 = pl ∧ JK S S' 0 0 0
def JBD (l : Launch) (Gr : zG) (n w d : Nat) (b : Nat → Int32) (t : Nat) (S S' : zS) (p vw iw : Nat) (f pl : Int32) : Prop := JB S S' f pl ∧ ∀ T q j N, HS b t q j 0 N vw iw p T → PZ l Gr n w d b t T f pl
def JR (l : Launch) (Gr : zG) (n w d : Nat) (b : Nat → Int32) (t : Nat) (S S' : zS) (p i D vw iw : Nat) : Prop := (∃ p' i' D' vw' iw', JOK l Gr n w d b t S S' p i D vw iw p' i' D' vw' iw') ∨ ∃ f pl, JBD l Gr n w d b t S S' p vw iw f pl
section ITM
variable {l : Launch} {Gr : zG} {n w : Nat} {d : Nat} {b : Nat → Int32} {t p i ws dp p' i' q j m N X u k D D' vw iw s e : Nat} {S S' S'' T T' T'' : zS}
theorem iW_cong : ∀ k, (∀ a, a < k → S'.1 19 a = S.1 19 a) → iW S' k = iW S k
  | 0, _ => rfl
  | k + 1, h => by
    show iW S' k + iB S' k = iW S k + iB S k
    rw [iW_cong k (fun a ha => h a (by omega)), iB, iB, h k (by omega)]
theorem iQ_cong {q : Nat} : ∀ k, (∀ a, a < k → S'.1 18 a = S.1 18 a ∧ S'.1 19 a = S.1 19 a) → iQ S' q k = iQ S q k
  | 0, _ => rfl
  | k + 1, h => by
    show iQ S' q k + (if iO S' k = q then iB S' k else 0) = iQ S q k + (if iO S k = q then iB S k else 0)
    rw [iQ_cong k (fun a ha => h a (by omega)), iB, iB, iO, iO, (h k (by omega)).1, (h k (by omega)).2]
theorem Ic_k (h : Ic n w S iw) (hk : ∀ c a, 17 ≤ c ∧ c ≤ 23 → S'.1 c a = S.1 c a) : Ic n w S' iw := by
  obtain ⟨h1, h2, h3, h4, h5⟩ := h
  have w1 : ∀ k, iW S' k = iW S k := fun k => iW_cong k (fun a _ => hk 19 a (by omega))
  refine ⟨h1, (hk 17 6 (by omega)).trans h2, by rw [hk 17 7 (by omega), w1]; exact h3, fun a ha => ?_, fun q hq => ?_⟩
  · obtain ⟨o, bt, x1, x2, x3, x4, x5, x6⟩ := h4 a ha
    exact ⟨o, bt, x1, x2, (hk 18 a (by omega)).trans x3, (hk 19 a (by omega)).trans x4, by rw [hk 20 a (by omega), w1]; exact x5, (hk 21 a (by omega)).trans x6⟩
  · rw [hk 23 q (by omega), iQ_cong iw (fun a _ => ⟨hk 18 a (by omega), hk 19 a (by omega)⟩)]
    exact h5 q hq
theorem Ic_SK {D0 : Nat} (h : Ic n w S iw) (hk : SK S S' i D0) : Ic n w S' iw := Ic_k h (fun c a hc => hk.2.2.1 c a (by omega) (by omega) (by omega) (by omega))
theorem JK_SK (h : SK S S' i D) : JK S S' i D iw := ⟨h.1, h.2.1, fun a _ => ⟨h.2.2.1 18 a (by omega) (by omega) (by omega) (by omega), h.2.2.1 19 a (by omega) (by omega) (by omega) (by omega), h.2.2.1 20 a (by omega) (by omega) (by omega) (by omega), h.2.2.1 21 a (by omega) (by omega) (by omega) (by omega)⟩, fun c a h1 h2 _ h4 h5 => h.2.2.1 c a h1 h2 h4 h5, h.2.2.2⟩
theorem JK_rfl : JK S S i D iw := JK_SK SK_rfl
theorem JK_tr (h1 : JK S S' i D iw) (h2 : JK S' S'' i D iw) : JK S S'' i D iw := by
  refine ⟨fun k a1 a2 => ?_, fun k hk => ?_, fun a ha => ?_, fun c k a1 a2 a3 a4 a5 => (h2.2.2.2.1 c k a1 a2 a3 a4 a5).trans (h1.2.2.2.1 c k a1 a2 a3 a4 a5), fun k hk hk2 => (h2.2.2.2.2.1 k hk hk2).trans (h1.2.2.2.2.1 k hk hk2), fun k hk => (h2.2.2.2.2.2.1 k hk).trans (h1.2.2.2.2.2.1 k hk), fun c k => (h2.2.2.2.2.2.2 c k).trans (h1.2.2.2.2.2.2 c k)⟩
  · obtain ⟨x1, x2, x3, x4⟩ := h1.1 k a1 a2
    obtain ⟨y1, y2, y3, y4⟩ := h2.1 k a1 a2
    exact ⟨y1.trans x1, y2.trans x2, y3.trans x3, y4.trans x4⟩
  · obtain ⟨x1, x2, x3, x4, x5, x6, x7⟩ := h1.2.1 k hk
    obtain ⟨y1, y2, y3, y4, y5, y6, y7⟩ := h2.2.1 k hk
    exact ⟨y1.trans x1, y2.trans x2, y3.trans x3, y4.trans x4, y5.trans x5, y6.trans x6, y7.trans x7⟩
  · obtain ⟨x1, x2, x3, x4⟩ := h1.2.2.1 a ha
    obtain ⟨y1, y2, y3, y4⟩ := h2.2.2.1 a ha
    exact ⟨y1.trans x1, y2.trans x2, y3.trans x3, y4.trans x4⟩
theorem JK_le {i' D' iw' : Nat} (h : JK S S' i D iw) (hi : i' ≤ i) (hD : D' ≤ D) (hw : iw' ≤ iw) : JK S S' i' D' iw' := ⟨fun k a1 a2 => h.1 k a1 (by omega), fun k hk => h.2.1 k (by omega), fun a ha => h.2.2.1 a (by omega), h.2.2.2⟩
theorem JK_0 (h : JK S S' i D iw) : JK S S' 0 0 0 := JK_le h (Nat.zero_le _) (Nat.zero_le _) (Nat.zero_le _)
theorem JB_SB {f pl : Int32} (h : SB S S' f pl) : JB S S' f pl := ⟨h.1, h.2.1, h.2.2.1, JK_SK h.2.2.2⟩
theorem JB_tr {f pl : Int32} {S1 : zS} (h : JK S S1 0 0 0) (hb : JB S1 S' f pl) : JB S S' f pl := ⟨hb.1, hb.2.1, hb.2.2.1, JK_tr h hb.2.2.2⟩
theorem JB_F {f x : Int32} {S1 : zS} (hf : fz f) (h : JK S S1 0 0 0) : JB S (cF S1 f x) f x := JB_tr h (JB_SB (SB_F hf SK_rfl))
/-- statements as ITEMs -/
theorem sr_jr (hc : Ic n w S iw) (h : SR l Gr n w d b t S S' p i D vw 0) : JR l Gr n w d b t S S' p i D vw iw := by
  rcases h with ⟨p', i', D', vw', h⟩ | ⟨f, pl, h⟩
  · refine Or.inl ⟨p', i', D', vw', iw, h.1, Ic_SK hc h.2.1, JK_SK h.2.1, h.2.2.1, h.2.2.2.1, h.2.2.2.2.1, Nat.le_refl _, fun T q j N hH => ?_⟩
    obtain ⟨T', q', j', N', px, hs, pk, g⟩ := h.2.2.2.2.2 T q j N iw hH (Or.inl rfl)
    obtain ⟨k, hk, gs⟩ := g
    have ln := gS_ln _ _ _ _ _ _ _ _ gs
    exact ⟨T', q', j', N', px, hs, pk, Or.inl ⟨⟨k, hk, gs⟩, rfl, h.2.2.2.1⟩, fun y => absurd (ln.1.symm.trans y) (by decide), fun y => absurd y ln.2⟩
  · exact Or.inr ⟨f, pl, JB_SB h.1, fun T q j N hH => h.2 T q j N iw hH (Or.inl rfl)⟩
theorem px_inp (hg : ip_gk (lg_tbl, vwCl, Gr)) (ho : ip_old (lg_tbl, vwCl, Gr)) (htx : ∀ k, k < t → tx (b k)) (h : HS b t q j 0 N vw iw p T) (hk : tk b t p = 200) (hm : zMv l Gr (zc n w) 168 M_Mo_inputItem (d + 13) [.ref 105, .int (nI p)] (zi T 73 6 (nI p)) (fun A => A = T')) : PX l Gr n w d T T' := fun Q kk => by
  have hpt : p < t := tk_pos (by rw [hk]; decide)
  refine pg hg ho htx h.1.1 h.2.1 h.1.2.1 (by omega) (fun y => by omega) (fun y => by omega) (fun _ y => absurd rfl y) (fun y => by rw [hk] at y; exact absurd y (by decide)) (fun y => by rw [hk] at y; exact absurd y (by decide)) (fun y => by rw [hk] at y; exact absurd y (by decide)) (fun _ _ => b_Mo_program_188 hg hm (fun A e => by rw [e]; exact b_Mo_program_193 (b_Mo_program_251 kk))) (fun y => by rw [hk] at y; exact absurd y (by decide)) (fun y => by rw [hk] at y; exact absurd y (by decide)) (fun _ _ _ _ _ y => absurd ⟨rfl, Or.inl hk⟩ y)
theorem px_def (hg : ip_gk (lg_tbl, vwCl, Gr)) (ho : ip_old (lg_tbl, vwCl, Gr)) (htx : ∀ k, k < t → tx (b k)) (h : HS b t q j 0 N vw iw p T) (hk : tk b t p = 203) (hm : zMv l Gr (zc n w) 168 M_Mo_defItem (d + 13) [.ref 105, .int (nI p)] (zi T 73 6 (nI p)) (fun A => A = T')) : PX l Gr n w d T T' := fun Q kk => by
  have hpt : p < t := tk_pos (by rw [hk]; decide)
  refine pg hg ho htx h.1.1 h.2.1 h.1.2.1 (by omega) (fun y => by omega) (fun y => by omega) (fun _ y => absurd rfl y) (fun y => by rw [hk] at y; exact absurd y (by decide)) (fun y => by rw [hk] at y; exact absurd y (by decide)) (fun y => by rw [hk] at y; exact absurd y (by decide)) (fun y => by rw [hk] at y; exact absurd y (by decide)) (fun _ _ => b_Mo_program_213 hg hm (fun A e => by rw [e]; exact b_Mo_program_218 (b_Mo_program_251 kk))) (fun y => by rw [hk] at y; exact absurd y (by decide)) (fun _ _ _ _ _ y => absurd ⟨rfl, Or.inr (Or.inl hk)⟩ y)
theorem px_out (hg : ip_gk (lg_tbl, vwCl, Gr)) (ho : ip_old (lg_tbl, vwCl, Gr)) (htx : ∀ k, k < t → tx (b k)) (h : HS b t q j 0 N vw iw p T) (hk : tk b t p = 208) (hm : zMv l Gr (zc n w) 168 M_Mo_outputItem (d + 13) [.ref 105, .int (nI p)] (zi T 73 6 (nI p)) (fun A => A = T')) : PX l Gr n w d T T' := fun Q kk => by
  have hpt : p < t := tk_pos (by rw [hk]; decide)
  refine pg hg ho htx h.1.1 h.2.1 h.1.2.1 (by omega) (fun y => by omega) (fun y => by omega) (fun _ y => absurd rfl y) (fun y => by rw [hk] at y; exact absurd y (by decide)) (fun y => by rw [hk] at y; exact absurd y (by decide)) (fun y => by rw [hk] at y; exact absurd y (by decide)) (fun y => by rw [hk] at y; exact absurd y (by decide)) (fun y => by rw [hk] at y; exact absurd y (by decide)) (fun _ _ => b_Mo_program_238 hg hm (fun A e => by rw [e]; exact b_Mo_program_243 (b_Mo_program_251 kk))) (fun _ _ _ _ _ y => absurd ⟨rfl, Or.inr (Or.inr hk)⟩ y)
/-- output EXPR ; -/
theorem w_out (hg : ip_gk (lg_tbl, vwCl, Gr)) (ho : ip_old (lg_tbl, vwCl, Gr)) (htx : ∀ k, k < t → tx (b k)) (hD : 7 ≤ D) (KE0 : KE l Gr n w d b t 0 D) {Dn : Nat} (h : CN b t p i Dn vw S) (hc : Ic n w S iw) (hk : tk b t p = 208) : zMv l Gr (zc n w) 168 M_Reader_readOutput (D + 1) [.ref 66] S (fun S' => JR l Gr n w d b t S S' p i Dn vw iw) := by
  obtain ⟨e, rfl⟩ : ∃ e, D = e + 7 := ⟨D - 7, by omega⟩
  have h0 := h.1
  have ht := CS_t h0
  have hp := CS_p h0
  have hpt : p < t := tk_pos (by rw [hk]; decide)
  have hip := h.2.2.2.2.1
  have e6 : te b t p = p + 6 := te_w htx hp (K := kw8) (c := 208) (fun s => wk_8) (by decide) (by decide) hk
  have hnp := np_ok (b := b) hp
  have tle := te_le (b := b) hp
  refine e_Reader_readOutput (b_Reader_readOutput_0 hg (w_add hg (CS_f h0) (CS_n h0) (by omega)) (fun v A hv => ?_))
  rw [hv.2, CS_s h0]
  have h1 : CS b t p (i + 1) 0 (cA S i 1 0 (nI p) 0) := CS_cA h0
  obtain ⟨S1, eS1⟩ : ∃ S1, S1 = cA S i 1 0 (nI p) 0 := ⟨_, rfl⟩
  have r1 := cA_r (S := S) (i0 := i) (x1 := 1) (x2 := 0) (x3 := nI p) (x4 := 0)
  have ck1 : CK S S1 i 0 := by rw [eS1]; exact CK_cA (Nat.le_refl _)
  rw [← eS1] at h1 r1 ⊢
  refine b_Reader_readOutput_16 hg (w_adv hg ho h1) (fun A eA => ?_)
  rw [eA]
  have h2 := CS_wS h1
  obtain ⟨p1, ep1⟩ : ∃ p1, p1 = np b t p := ⟨_, rfl⟩
  rw [← ep1] at h2 hnp ⊢
  obtain ⟨S2, eS2⟩ : ∃ S2, S2 = wS b t p1 S1 := ⟨_, rfl⟩
  have ck2 : CK S1 S2 (i + 1) 0 := by rw [eS2]; exact CK_wS
  have ck02 : CK S S2 i 0 := CK_tr ck1 (CK_le ck2 (by omega) (Nat.le_refl _))
  rw [← eS2] at h2 ⊢
  rw [e6] at hnp
  have hp1 := CS_p h2
  have g1 : gp b t (p + 6) = p1 := by rw [ep1, np, e6]
  -- the reference up to its EXPR
  have st1 : ∀ T q j N, HS b t q j 0 N vw iw p T → ∃ T1, MC b t (p + 6) (j + 1) 0 0 N T1 ∧ MK b t T T1 j 0 ∧ bud b t 12 (j + 1) 0 N (p + 6) ∧ T1.1 78 j = 20 ∧ T1.1 81 j = nI p ∧
    (∀ Q, zW l Gr (zc n w) 168 M_Mo_outputItem (d + 13) 20 [some (.ref 105), some (.int (nI p)), none] [.int (nI j)] T1 Q → zW l Gr (zc n w) 168 M_Mo_outputItem (d + 13) 0 [some (.ref 105), some (.int (nI p)), none] [] (zi T 73 6 (nI p)) Q) := fun T q j N hH => by
    have hqp : q ≤ p := by rw [← hH.2.1]; exact gp_ge (MC_p2 hH.1.1)
    obtain ⟨b1, -, b3⟩ := hH.2.2
    have M0 := MC_p hH.1.1 hH.2.1
    have M1 : MC b t (p + 6) j 0 0 N (zi (zi T 73 6 (nI p)) 73 6 (nI (p + 6))) := MC_at M0 (by omega)
    have M2 : MC b t (p + 6) (j + 1) 0 0 N (mP (zi (zi T 73 6 (nI p)) 73 6 (nI (p + 6))) j 20 0 0 (nI p)) := MC_mP M1
    have r := mP_r (T := zi (zi T 73 6 (nI p)) 73 6 (nI (p + 6))) (j0 := j) (x1 := 20) (x2 := 0) (x3 := 0) (x4 := nI p)
    refine ⟨_, M2, MK_tr (MK_tr (MK_zi (by omega)) (MK_zi (by omega))) (MK_mP (Nat.le_refl _)), ⟨by omega, by omega, nb_le b3 (by omega)⟩, r.1, r.2.2.2, fun Q kk => ?_⟩
    refine b_Mo_outputItem_0 (R := fun v A => v = nI j ∧ A = mP (zi (zi T 73 6 (nI p)) 73 6 (nI (p + 6))) j 20 0 0 (nI p)) hg ?_ (fun v A hv => by rw [hv.1, hv.2]; exact kk)
    rw [MC_6 M0, show nI p + 6 = nI (p + 6) from nI_add p 6]
    exact wm_put (MC_13 M1) (by omega)
  have dsp : ∀ {T T' q j N}, HS b t q j 0 N vw iw p T → zMv l Gr (zc n w) 168 M_Mo_outputItem (d + 13) [.ref 105, .int (nI p)] (zi T 73 6 (nI p)) (fun A => A = T') → PX l Gr n w d T T' := fun hH hm => px_out hg ho htx hH hk hm
  refine b_Reader_readOutput_24 hg (KE0 _ _ _ _ h2 (by omega) (by omega)) (fun S3 hE => ?_)
  rw [CS_s h2]
  rcases hE with ⟨p2, i1, hE⟩ | ⟨f, pl, hE⟩
  · have c3 := hE.1
    have ck3 := hE.2.1
    have hlt3 := hE.2.2.1
    have hbd3 := hE.2.2.2.1
    have hp2 := CS_p c3
    have wb2 := c3.2.2.2.2.2.2.2.2.1
    have ck13 : CK S1 S3 (i + 1) 0 := CK_tr ck2 ck3
    refine b_Reader_readOutput_37 hg (w_add hg (CS_f c3) (CS_n c3) (by omega)) (fun v A hv => ?_)
    rw [hv.2]
    have c4 : CS b t p2 (i1 + 1) 0 (cA S3 i1 13 0 (nI p1) 0) := CS_cA c3
    have r4 := cA_r (S := S3) (i0 := i1) (x1 := 13) (x2 := 0) (x3 := nI p1) (x4 := 0)
    have ck34 : CK S3 (cA S3 i1 13 0 (nI p1) 0) i1 0 := CK_cA (Nat.le_refl _)
    obtain ⟨S4, eS4⟩ : ∃ S4, S4 = cA S3 i1 13 0 (nI p1) 0 := ⟨_, rfl⟩
    rw [← eS4] at c4 r4 ck34 ⊢
    have ck14 : CK S1 S4 (i + 1) 0 := CK_tr ck13 (CK_le ck34 (by omega) (Nat.le_refl _))
    have ck04 : CK S S4 i 0 := CK_tr ck1 (CK_le ck14 (by omega) (Nat.le_refl _))
    -- the reference up to its ;
    have st2 : ∀ T q j N, HS b t q j 0 N vw iw p T → ∃ T3 j1 N3, MC b t p2 (j1 + 1) 0 0 N3 T3 ∧ MK b t T T3 j 0 ∧ bud b t 11 (j1 + 1) 0 N3 p2 ∧ j + 1 < j1 ∧ gX w S3 T3 (nid b t T3) p1 (i + 1) i1 (j + 1) j1 ∧ (T3.1 78 j = 20 ∧ T3.1 81 j = nI p ∧ T3.1 78 j1 = 30) ∧
      (∀ Q, zW l Gr (zc n w) 168 M_Mo_outputItem (d + 13) 41 [some (.ref 105), some (.int (nI p)), none] [.int (nI j1)] T3 Q → zW l Gr (zc n w) 168 M_Mo_outputItem (d + 13) 0 [some (.ref 105), some (.int (nI p)), none] [] (zi T 73 6 (nI p)) Q) := fun T q j N hH => by
      obtain ⟨T1, M1, mk1, b1, r0, r0', pre⟩ := st1 T q j N hH
      obtain ⟨Y, j1, N3, kx, MY, mkY, bY, gx⟩ := x_okD (D := d + 11) (by omega) hg htx (by omega) hE M1 g1 b1
      have bx := gX_bnd gx
      have bY1 := bY.1
      have M3 : MC b t p2 (j1 + 1) 0 0 N3 (mP Y j1 30 0 0 (nI p)) := MC_mP MY
      have mk3 : MK b t Y (mP Y j1 30 0 0 (nI p)) j1 0 := MK_mP (Nat.le_refl _)
      have mk13 : MK b t T1 (mP Y j1 30 0 0 (nI p)) (j + 1) 0 := MK_tr mkY (MK_le mk3 (by omega) (Nat.le_refl _))
      have c0 := mk13.1 j (Nat.zero_le _) (by omega)
      refine ⟨_, j1, N3, M3, MK_tr mk1 (MK_le mk13 (by omega) (Nat.le_refl _)), ⟨by omega, by omega, bY.2.2⟩, by omega, gX_cong mk3.2.2.2.2.2 gx cgS_rfl (fun a q1 q2 => mk3.1 a (Nat.zero_le _) q2), ⟨c0.1.trans r0, c0.2.2.2.1.trans r0', mP_r.1⟩, fun Q kk => pre Q (b_Mo_outputItem_20 hg kx (fun A eA => ?_))⟩
      rw [eA]
      refine b_Mo_outputItem_25 (fun y => absurd (MC_f MY) y) (fun _ => b_Mo_outputItem_32 hg (wm_put (MC_13 MY) (by omega)) (fun v A hv => ?_))
      rw [hv.1, hv.2]
      exact kk
    refine b_Reader_readOutput_48 hg (w_expect hg ho c4) (fun S5 h5 => b_Reader_readOutput_55 ⟨rfl, ?_⟩)
    rcases h5 with ⟨k59, e5⟩ | ⟨k59, e5⟩
    · rw [e5]
      have hpt2 : p2 < t := tk_pos (by rw [k59]; decide)
      have hgt2 := np_gt (b := b) hpt2
      obtain ⟨te2, -⟩ := te_s htx hp2 (c := 59) (by decide) (by decide) (by decide) k59
      have c5 := CS_wS c4
      have ck05 : CK S (wS b t (np b t p2) S4) i 0 := CK_tr ck04 CK_wS
      have ck35 : CK S3 (wS b t (np b t p2) S4) i1 0 := CK_tr ck34 CK_wS
      have s0 := (CK_tr ck14 (CK_wS (b := b) (t := t) (p := np b t p2))).1 i (Nat.zero_le _) (by omega)
      have s1 := (CK_wS (S := S4) (i := i1 + 1) (ws := 0) (b := b) (t := t) (p := np b t p2)).1 i1 (Nat.zero_le _) (by omega)
      have hln : p + 9 ≤ np b t p2 := by
        have b1 := hbd3.1
        have b2 := hbd3.2.1
        rcases wzb_c (b := b) (t := t) (p := p1) with y | y
        · rw [y] at b2
          omega
        · have := np_ne htx hp (Or.inr (by rw [hk]; decide)) (by rw [← ep1]; exact y)
          rw [e6, ← ep1] at this
          omega
      have hx5 : hxS (wS b t (np b t p2) S4) i (i1 + 1) p (np b t p2) := by
        have A : Hx S4 (i + 1) i1 1 1 341 ((np b t p2 : Int) - p) := Hx_0 (Hx_mono hbd3.2.2 (by omega) (by omega)) ck34.1 (Nat.le_refl _)
        exact Hx_wS (Hx_eq (Hx_sn (e1 := -1) (e2 := -1) (Hx_cs ((ck14.1 i (Nat.zero_le _) (by omega)).1.trans r1.1) (by decide) (by decide) (by decide) A (by omega) (by omega)) r4.1 (by decide) (by decide) (by decide) (by omega) (by omega)) (by omega) (by omega))
      refine Or.inl ⟨np b t p2, i1 + 1, Dn, vw, iw, CN_CK h c5 (CK_le ck05 (Nat.zero_le _) (Nat.le_refl _)) (by omega) (by omega), Ic_SK hc (SK_CK (D := 0) ck05), JK_SK (SK_CK ck05), by omega, Nat.le_refl _, ⟨by omega, by omega, hx5⟩, Nat.le_refl _, fun T q j N hH => ?_⟩
      obtain ⟨T3, j1, N3, M3, mk3, b3, hj, gx, rT, pre⟩ := st2 T q j N hH
      have b31 := b3.1
      have p3 := P3_MK mk3
      have M4 : MC b t (p2 + 1) (j1 + 1) 0 0 N3 (zi T3 73 6 (nI (p2 + 1))) := MC_at M3 (by omega)
      have M5 : MC b t (p2 + 1) (j1 + 2) 0 0 N3 (mP (zi T3 73 6 (nI (p2 + 1))) (j1 + 1) 21 0 0 (nI p)) := MC_mP M4
      have mk5 : MK b t T3 (mP (zi T3 73 6 (nI (p2 + 1))) (j1 + 1) 21 0 0 (nI p)) (j1 + 1) 0 := MK_tr (MK_zi (by omega)) (MK_mP (Nat.le_refl _))
      obtain ⟨Y, eY⟩ : ∃ Y, Y = mP (zi T3 73 6 (nI (p2 + 1))) (j1 + 1) 21 0 0 (nI p) := ⟨_, rfl⟩
      have rY : Y.1 78 (j1 + 1) = 21 := by rw [eY]; exact mP_r.1
      rw [← eY] at M5 mk5
      have p5 := P3_MK mk5
      have c0 := mk5.1 j (Nat.zero_le _) (by omega)
      have c1 := mk5.1 j1 (Nat.zero_le _) (by omega)
      refine ⟨Y, p2 + 1, j1 + 2, N3, dsp hH (e_Mo_outputItem (pre _ (b_Mo_outputItem_41 hg (wm_sg hg htx (by decide) (by decide) (by decide) M3.1 (gp_wb wb2) k59) (fun A eA => ?_)))), ⟨⟨M5, p5.1.trans (p3.1.trans hH.1.2.1), p5.2.2.trans (p3.2.2.trans hH.1.2.2.1), p5.2.1.trans (p3.2.1.trans hH.1.2.2.2)⟩, by rw [np, te2], ⟨by omega, by omega, nb_le b3.2.2 (by omega)⟩⟩, PK_MK (MK_tr mk3 (MK_le mk5 (by omega) (Nat.le_refl _))), Or.inr (Or.inr (Or.inr ⟨⟨p1, i1, j1, gX_cong mk5.2.2.2.2.2 gx (fun a q1 q2 => ck35.1 a (Nat.zero_le _) (by omega)) (fun a q1 q2 => mk5.1 a (Nat.zero_le _) (by omega)), rfl, rfl, s0.1.trans r1.1, s0.2.2.1.trans r1.2.2.1, s1.1.trans r4.1, s1.2.2.1.trans r4.2.2.1, c0.1.trans rT.1, c0.2.2.2.1.trans rT.2.1, c1.1.trans rT.2.2, rY⟩, rfl, rfl, Nat.le_refl _⟩)), fun y => absurd ((s0.1.trans r1.1).symm.trans y) (by decide), fun _ => hln⟩
      rw [eA]
      refine b_Mo_outputItem_48 hg (wm_put (MC_13 M4) (by omega)) (fun v A hv => b_Mo_outputItem_57 (b_Mo_outputItem_58 ⟨rfl, ?_⟩))
      rw [hv.2, eY]
    · rw [e5]
      refine Or.inr ⟨1, nI p2, JB_F (by decide) (JK_SK (SK_CK (CK_le ck04 (Nat.zero_le _) (Nat.le_refl _)))), fun T q j N hH => ?_⟩
      obtain ⟨T3, j1, N3, M3, mk3, b3, hj, gx, rT, pre⟩ := st2 T q j N hH
      have b31 := b3.1
      obtain ⟨Y, eY⟩ : ∃ Y, Y = mP (mF (zi T3 73 6 (nI p2)) 1 (nI p2)) (j1 + 1) 21 0 0 (nI p) := ⟨_, rfl⟩
      refine PZ_of (T' := Y) (by decide) (dsp hH (e_Mo_outputItem (pre _ (b_Mo_outputItem_41 hg (wm_sgF hg htx (by decide) (by decide) (by decide) M3.1 (gp_wb wb2) (MC_f M3) k59) (fun A eA => ?_))))) (by rw [eY, mP_k (by decide)]; exact mF_f.1) (by rw [eY, mP_k (by decide)]; exact mF_f.2) (PK_MK (m := 0) (MK_tr (MK_le mk3 (Nat.zero_le _) (Nat.le_refl _)) (by rw [eY]; exact MK_tr (MK_tr (MK_zi (by omega)) MK_mF) (MK_mP (Nat.zero_le _)))))
      rw [eA]
      refine b_Mo_outputItem_48 hg (wm_put (j := j1 + 1) (by rw [mF_k (by decide), zi_k (by decide)]; exact MC_13 M3) (by omega)) (fun v A hv => b_Mo_outputItem_57 (b_Mo_outputItem_58 ⟨rfl, ?_⟩))
      rw [hv.2, eY]
  · have f1 : ¬ S3.1 3 5 = 0 := by rw [hE.1.2.1]; exact nz hE.1.1
    refine b_Reader_readOutput_37 hg (w_addN hg f1) (fun v A hv => ?_)
    rw [hv.2]
    refine b_Reader_readOutput_48 hg (w_expectN hg f1) (fun A eA => b_Reader_readOutput_55 ⟨rfl, ?_⟩)
    rw [eA]
    refine Or.inr ⟨f, pl, JB_SB (SB_CB (SK_CK (CK_le ck02 (Nat.zero_le _) (Nat.le_refl _))) hE.1), fun T q j N hH => ?_⟩
    obtain ⟨T1, M1, mk1, b1, r0, r0', pre⟩ := st1 T q j N hH
    obtain ⟨Y, kx, y7, y8, mkY, -⟩ := x_badD (l := l) (Gr := Gr) (n := n) (w := w) (d := d) (D := d + 11) (by omega) hE M1 g1 b1
    refine PZ_of (T' := Y) (nz hE.1.1) (dsp hH (e_Mo_outputItem (pre _ (b_Mo_outputItem_20 hg kx (fun A eA => ?_))))) y7 y8 (PK_MK (m := 0) (MK_tr (MK_le mk1 (Nat.zero_le _) (Nat.le_refl _)) mkY))
    rw [eA]
    exact b_Mo_outputItem_25 (fun _ => b_Mo_outputItem_58 ⟨rfl, rfl⟩) (fun y => absurd (y7.symm.trans y) (nz hE.1.1))
end ITM
