/-! two stores of one heap have the same cells; a call that has no run -/
section SAM
variable {l : Launch} {G : ip_G} {Gr : zG} {n w c len k d : Nat} {S S' : zS} {H : Heap} {Q : Option Value → zS → Prop} {v : Option Value}
theorem row_eq (hz : ∀ (I : Nat → Int32) (J : Nat → Int64), zc n w I J c = .inl (.int, len, .inl I)) (h1 : ip_cz G c (zc n w (S.1 c) (S.2 c) c) H) (h2 : ip_cz G c (zc n w (S'.1 c) (S'.2 c) c) H) (hk : k < len) : S.1 c k = S'.1 c k := by
  rw [hz] at h1 h2
  have q1 : H[ip_B G + c]? = some (vp_cell (ip_A G .int) (len, .inl (S.1 c))) := h1
  have q2 : H[ip_B G + c]? = some (vp_cell (ip_A G .int) (len, .inl (S'.1 c))) := h2
  have q3 : vp_cell (ip_A G .int) (len, .inl (S.1 c)) = vp_cell (ip_A G .int) (len, .inl (S'.1 c)) := Option.some.inj (q1.symm.trans q2)
  have e : ∀ f : Nat → Int32, (vp_cell (ip_A G .int) (len, .inl f)).slots.getD k .null = .int (f k) := fun f => by
    show (arrV (ip_A G .int) len (fun j => .int (f j))).slots.getD _ _ = _
    rw [Array.getD_eq_getD_getElem?, arrV_read _ _ hk]
    rfl
  have e1 := e (S.1 c)
  rw [q3, e (S'.1 c)] at e1
  exact (Value.int.inj e1).symm
theorem fld_eq (hf : ∀ (I : Nat → Int32) (J : Nat → Int64), (zf73 n w I J)[k]? = some (.int (I k))) (h1 : ip_cz (lg_tbl, vwCl, Gr) 73 (zc n w (S.1 73) (S.2 73) 73) H) (h2 : ip_cz (lg_tbl, vwCl, Gr) 73 (zc n w (S'.1 73) (S'.2 73) 73) H) (hk : ∀ r, vwCl[12]? = some r → k < r.2.2) : S.1 73 k = S'.1 73 k := by
  rw [zo_73] at h1 h2
  obtain ⟨r, c1, x, y1, y2, y3, y4⟩ := h1
  obtain ⟨r', c1', x', y1', y2', y3', y4'⟩ := h2
  have c1 : vwCl[12]? = some r := c1
  have c1' : vwCl[12]? = some r' := c1'
  have er : r = r' := Option.some.inj (c1.symm.trans c1')
  subst er
  have ex : x = x' := Option.some.inj (y1.symm.trans y1')
  subst ex
  have hk := hk r c1
  have hV : vp_V ((zf73 n w (S.1 73) (S.2 73)).map (ip_v (lg_tbl, vwCl, Gr))) k = vp_V ((zf73 n w (S'.1 73) (S'.2 73)).map (ip_v (lg_tbl, vwCl, Gr))) k := Option.some.inj ((y4 k hk).symm.trans (y4' k hk))
  have e : ∀ I J, vp_V ((zf73 n w I J).map (ip_v (lg_tbl, vwCl, Gr))) k = .int (I k) := fun I J => by
    unfold vp_V
    rw [List.getD_eq_getElem?_getD, List.getElem?_map, hf]
    rfl
  rw [e, e] at hV
  exact Value.int.inj hV
/-- no run of build from S: compile's call of it can end in anything -/
theorem ev_36 (hg : ip_gk (lg_tbl, vwCl, Gr)) (ev : ∀ r : Option Value × ip_H, r.2.length = 168 → ip_t r.2 = ip_t (zP (zc n w) 168 S) → ip_RnM l (lg_tbl, vwCl, Gr) M_Mo_build d [.ref 105] (zP (zc n w) 168 S) r) (q : Q v S') : zW l Gr (zc n w) 168 M_Mo_compile (d + 1) 36 [some (.ref 105), none] [] S Q := by
  refine z_go (Gr := Gr) (zc := zc n w) (K := 168) oV_Mo_compile 1 (pc' := 37) (L' := [some (.ref 105), none]) (st' := [.ref 105]) rfl ?_
  refine ⟨v, S', q, ip_callV (G := (lg_tbl, vwCl, Gr)) hg.2.2.1 fT oM_Mo_build (oV_Mo_compile.1 (37, .invokevirtual 845) (ip_lk_mem rfl)) ⟨tt_10 _ (List.mem_of_getElem? (i := 40) rfl) rfl, tt_10 _ (List.mem_of_getElem? (i := 42) rfl) rfl, fS_Mo_build⟩ (n := 105) (ci := 12) (As := []) rfl rfl rfl (by rw [z_h (c := 73) (by decide)]; rfl) (Nat.le_of_ble_eq_true rfl) (ev (none, zbd n w S) zbd_l zbd_t) ?_⟩
  refine ⟨⟨?_, ?_⟩, ?_⟩
  · show (zbd n w S).length ≤ (zP (zc n w) 168 S').length
    rw [zbd_l, zP_l]
    exact Nat.le_refl _
  · show ip_t (zbd n w S) ≤ ip_t (zP (zc n w) 168 S')
    rw [zbd_t, zP_t]
    exact Nat.le_refl _
  · intro p e R s m args below meth c Q H locs cells slots ls _ _ _ _ _ _ hSt
    exact (zbd_no hSt).elim
end SAM
