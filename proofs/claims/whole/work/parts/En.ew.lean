/-! two stores of one heap: each can stand for the other -/
/-- an entry's shape: its size, and of what class an object is -/
def zsh (e : ip_E) : Nat × Option Nat := (ip_z e, match e with
  | .inl _ => none
  | .inr o => some o.1)
theorem zsh_bif {b : Bool} {x x' y y' : ip_E} (h1 : zsh x = zsh x') (h2 : zsh y = zsh y') : zsh (bif b then x else y) = zsh (bif b then x' else y') := by
  cases b
  · exact h2
  · exact h1
theorem zsh_c (n w : Nat) (I I' : Nat → Int32) (J J' : Nat → Int64) (c : Nat) : zsh (zc n w I J c) = zsh (zc n w I' J' c) := by
  unfold zc
  repeat' apply zsh_bif
  all_goals rfl
/-- what an entry says of heaps -/
def ip_cz (G : ip_G) (k : Nat) (e : ip_E) : Heap → Prop := fun H => va_at (ip_D G) (ip_C G) (ip_B G + k, ip_cv G e) H
section SWP
variable {l : Launch} {G : ip_G} {M : ip_M} {d : Nat} {As : List Value} {h h' : ip_H} {v : Option Value} {n w : Nat} {S S' S1 S1' : zS}
theorem ip_St_cz : ip_St G h = fun H => H.size = ip_B G + h.length ∧ ∀ k e, h[k]? = some e → ip_cz G k e H := by
  funext H
  apply propext
  unfold ip_St
  refine and_congr_right (fun _ => ⟨fun hP k e hk => hP k (ip_B G + k, ip_cv G e) (by rw [ip_ws_get, hk]; rfl), fun hP k q hk => ?_⟩)
  rw [ip_ws_get] at hk
  cases e : h[k]? with
  | none => rw [e] at hk; cases hk
  | some x =>
    rw [e] at hk
    have e2 : (ip_B G + k, ip_cv G x) = q := Option.some.inj hk
    rw [← e2]
    exact hP k x e
/-- two entries of one shape that one heap bears say the same of every heap -/
theorem cz_eq {k : Nat} {e e' : ip_E} {H : Heap} (hs : zsh e = zsh e') (h1 : ip_cz G k e H) (h2 : ip_cz G k e' H) : ip_cz G k e = ip_cz G k e' := by
  funext H'
  apply propext
  have hs2 := (Prod.mk.inj hs).2
  match e, e', hs2, h1, h2 with
  | .inl a, .inl a', _, h1, h2 =>
    have q1 : H[ip_B G + k]? = some (vp_cell (ip_A G a.1) a.2) := h1
    have q2 : H[ip_B G + k]? = some (vp_cell (ip_A G a'.1) a'.2) := h2
    have q3 : vp_cell (ip_A G a.1) a.2 = vp_cell (ip_A G a'.1) a'.2 := Option.some.inj (q1.symm.trans q2)
    show H'[ip_B G + k]? = some (vp_cell (ip_A G a.1) a.2) ↔ H'[ip_B G + k]? = some (vp_cell (ip_A G a'.1) a'.2)
    rw [q3]
  | .inr o, .inr o', hs2, h1, h2 =>
    have eo : o.1 = o'.1 := Option.some.inj hs2
    obtain ⟨r, c1, x, y1, y2, y3, y4⟩ := h1
    obtain ⟨r', c1', x', y1', y2', y3', y4'⟩ := h2
    have c1 : (ip_C G)[o.1]? = some r := c1
    have c1' : (ip_C G)[o'.1]? = some r' := c1'
    have er : r = r' := Option.some.inj (c1.symm.trans (by rw [eo]; exact c1'))
    subst er
    have ex : x = x' := Option.some.inj (y1.symm.trans y1')
    subst ex
    have hV : ∀ j, j < r.2.2 → vp_V (o.2.map (ip_v G)) j = vp_V (o'.2.map (ip_v G)) j := fun j hj => by
      have a := y4 j hj
      have a' := y4' j hj
      have a2 : x.slots[(ip_D G).2 o.1 j]? = some (vp_V (o'.2.map (ip_v G)) j) := by rw [eo]; exact a'
      exact Option.some.inj (a.symm.trans a2)
    show (∃ r, (ip_C G)[o.1]? = some r ∧ t_OB (ip_B G + k) ((ip_D G).1 o.1) r.2.2 ((ip_D G).2 o.1) H' (vp_V (o.2.map (ip_v G)))) ↔ (∃ r, (ip_C G)[o'.1]? = some r ∧ t_OB (ip_B G + k) ((ip_D G).1 o'.1) r.2.2 ((ip_D G).2 o'.1) H' (vp_V (o'.2.map (ip_v G))))
    rw [← eo]
    constructor
    · rintro ⟨r2, z1, z2⟩
      have : r2 = r := Option.some.inj (z1.symm.trans c1)
      subst this
      exact ⟨r2, z1, z2.to hV⟩
    · rintro ⟨r2, z1, z2⟩
      have : r2 = r := Option.some.inj (z1.symm.trans c1)
      subst this
      exact ⟨r2, z1, z2.to (fun j hj => (hV j hj).symm)⟩
/-- cell by cell the same -/
def zQ (G : ip_G) (n w : Nat) (S S' : zS) : Prop := ∀ c, c < 168 → ip_cz G c (zc n w (S.1 c) (S.2 c) c) = ip_cz G c (zc n w (S'.1 c) (S'.2 c) c)
theorem zP_at {c : Nat} (h : c < 168) : (zP (zc n w) 168 S)[c]? = some (zc n w (S.1 c) (S.2 c) c) := by
  unfold zP
  rw [List.getElem?_map, List.getElem?_range h]
  rfl
theorem zP_l : (zP (zc n w) 168 S).length = 168 := by
  unfold zP
  rw [List.length_map, List.length_range]
theorem zP_t : ip_t (zP (zc n w) 168 S) = ip_t (zP (zc n w) 168 S') := by
  unfold ip_t zP
  rw [List.map_map, List.map_map]
  exact congrArg List.sum (List.map_congr_left (fun c _ => (Prod.mk.inj (zsh_c n w (S.1 c) (S'.1 c) (S.2 c) (S'.2 c) c)).1))
theorem zP_cz : ip_St G (zP (zc n w) 168 S) = fun H => H.size = ip_B G + 168 ∧ ∀ c, c < 168 → ip_cz G c (zc n w (S.1 c) (S.2 c) c) H := by
  rw [ip_St_cz, zP_l]
  funext H
  apply propext
  refine and_congr_right (fun _ => ⟨fun h c hc => h c _ (zP_at hc), fun h k e hk => ?_⟩)
  have hk2 : k < 168 := by
    by_cases z : k < 168
    · exact z
    · rw [List.getElem?_eq_none (by rw [zP_l]; omega)] at hk
      cases hk
  rw [zP_at hk2] at hk
  rw [← Option.some.inj hk]
  exact h k hk2
theorem zQ_St (h : zQ G n w S S') : ip_St G (zP (zc n w) 168 S) = ip_St G (zP (zc n w) 168 S') := by
  rw [zP_cz, zP_cz]
  funext H
  apply propext
  exact and_congr_right (fun _ => ⟨fun q c hc => by rw [← h c hc]; exact q c hc, fun q c hc => by rw [h c hc]; exact q c hc⟩)
theorem zQ_two (h : ip_two G (v, zP (zc n w) 168 S) (v, zP (zc n w) 168 S')) : zQ G n w S S' := by
  obtain ⟨-, H, h1, h2⟩ := h
  have h1 : ip_St G (zP (zc n w) 168 S) H := h1
  have h2 : ip_St G (zP (zc n w) 168 S') H := h2
  rw [zP_cz] at h1 h2
  exact fun c hc => cz_eq (zsh_c n w _ _ _ _ c) (h1.2 c hc) (h2.2 c hc)
theorem zQ_pre (h : zQ G n w S S') {r : Option Value × ip_H} (k : ip_RnM l G M d As (zP (zc n w) 168 S) r) : ip_RnM l G M d As (zP (zc n w) 168 S') r := by
  obtain ⟨k1, k2⟩ := k
  have e1 : (zP (zc n w) 168 S).length = (zP (zc n w) 168 S').length := by rw [zP_l, zP_l]
  have e2 : ip_t (zP (zc n w) 168 S) = ip_t (zP (zc n w) 168 S') := zP_t
  unfold ip_RnM
  unfold ip_rm ip_Pc at k2 ⊢
  rw [← e1, ← e2, ← zQ_St h]
  exact ⟨k1, k2⟩
theorem zQ_post (h : zQ G n w S S') (k : ip_RnM l G M d As h' (v, zP (zc n w) 168 S)) : ip_RnM l G M d As h' (v, zP (zc n w) 168 S') := by
  obtain ⟨k1, k2⟩ := k
  have e1 : (zP (zc n w) 168 S).length = (zP (zc n w) 168 S').length := by rw [zP_l, zP_l]
  have e2 : ip_t (zP (zc n w) 168 S) = ip_t (zP (zc n w) 168 S') := zP_t
  unfold ip_RnM
  unfold ip_rm ip_Qc at k2 ⊢
  simp only at k1 k2 ⊢
  rw [← e1, ← e2, ← zQ_St h]
  exact ⟨k1, k2⟩
/-- the class's cells of one store, the reference's of another -/
def zmx (S T : zS) : zS := (fun c => if c < 73 then S.1 c else T.1 c, fun c => if c < 73 then S.2 c else T.2 c)
theorem zQ_mx {T : zS} (h : zQ G n w S S') (hT : ∀ c, c < 73 → T.1 c = S.1 c ∧ T.2 c = S.2 c) : zQ G n w T (zmx S' T) := fun c hc => by
  show _ = ip_cz G c (zc n w (if c < 73 then S'.1 c else T.1 c) (if c < 73 then S'.2 c else T.2 c) c)
  by_cases q : c < 73
  · rw [if_pos q, if_pos q, (hT c q).1, (hT c q).2]
    exact h c hc
  · rw [if_neg q, if_neg q]
end SWP
