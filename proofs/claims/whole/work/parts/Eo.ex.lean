/-! compile()'s turn of the law: the class's end is had for the reference's code -/
section TCO
variable {l : Launch} {Gr : zG} {n w d j Lx : Nat} {xs : Nat → Int32} {Inv : zS → Prop} {S S0 S1 S2 : zS} {x0 y : Int32}
/-- a picture that no heap bears -/
def zbd (n w : Nat) (S : zS) : ip_H := ip_hs (zP (zc n w) 168 S) 32 (.inr (vwCl.length, zf0 n w (S.1 0) (S.2 0)))
theorem zbd_t : ip_t (zbd n w S) = ip_t (zP (zc n w) 168 S) := ip_hs_t (z_h (c := 0) (by decide)) (by rw [zo_0]; rfl)
theorem zbd_l : (zbd n w S).length = 168 := by
  unfold zbd ip_hs
  rw [List.length_set]
  exact zP_l
theorem zbd_m : ∃ fs, ip_h (zbd n w S) 105 = some (.inr (12, fs)) := by
  obtain ⟨fs, e⟩ := zw_m0 n w S
  refine ⟨fs, ?_⟩
  rw [← e]
  unfold zbd ip_hs ip_h
  rw [if_neg (by omega), if_neg (by omega), List.getElem?_set_ne (by decide)]
theorem zbd_no {H : Heap} (h : ip_St (lg_tbl, vwCl, Gr) (zbd n w S) H) : False := by
  rw [ip_St_cz] at h
  have e : (zbd n w S)[0]? = some (.inr (vwCl.length, zf0 n w (S.1 0) (S.2 0))) := by
    unfold zbd ip_hs
    rw [List.getElem?_set_self (by rw [zP_l]; decide)]
  obtain ⟨r, c, -⟩ := h.2 0 _ e
  have c : vwCl[vwCl.length]? = some r := c
  rw [List.getElem?_eq_none (Nat.le_refl _)] at c
  cases c
theorem t_two {M M' : ip_M} {As As' : List Value} (hI : Inv S) (c0 : ip_RnM l (lg_tbl, vwCl, Gr) M d As (zP (zc n w) 168 S) (some (.int x0), zP (zc n w) 168 S0)) (c1 : ip_RnM l (lg_tbl, vwCl, Gr) M d As (zP (zc n w) 168 S) (some (.int y), zP (zc n w) 168 S1)) (m0 : ip_RnM l (lg_tbl, vwCl, Gr) M' d As' (zP (zc n w) 168 S0) (some (.int y), zP (zc n w) 168 S2)) (fr : ∀ c, c < 73 → S2.1 c = S0.1 c ∧ S2.2 c = S0.2 c) (hI2 : Inv (zmx S1 S2)) : ∃ (v : Int32) (h1 : ip_H) (S3 : zS), ip_RnM l (lg_tbl, vwCl, Gr) M d As (zP (zc n w) 168 S) (some (.int v), h1) ∧ (∃ fs, ip_h h1 105 = some (.inr (12, fs))) ∧ ip_RnM l (lg_tbl, vwCl, Gr) M' d As' h1 (some (.int v), zP (zc n w) 168 S3) ∧ Inv S3 := by
  rcases met_two c0 c1 (by rw [zP_l, zP_l]) zP_t with ⟨-, H, h1, h2⟩ | va
  · have q : zQ (lg_tbl, vwCl, Gr) n w S0 S1 := zQ_two (v := none) ⟨rfl, H, h1, h2⟩
    exact ⟨y, _, zmx S1 S2, c1, zw_m0 n w S1, zQ_pre q (zQ_post (zQ_mx q fr) m0), hI2⟩
  · refine ⟨0, zbd n w S, S, va _ (by rw [zbd_l, zP_l]) (zbd_t.trans zP_t), zbd_m, ⟨⟨by rw [zbd_l, zP_l]; exact Nat.le_refl _, by rw [zbd_t]; exact Nat.le_refl _⟩, ?_⟩, hI⟩
    intro p e ha hc hk s m args below hf hap hP hK
    exact (zbd_no hP.2.2).elim
theorem t_comp (hg : ip_gk (lg_tbl, vwCl, Gr)) (hX : ∀ U : State, ip_X (lg_tbl, vwCl, Gr) U → va_X (ip_O (lg_tbl, vwCl, Gr) 0) Lx xs U U.heap) (hb : ip_O (lg_tbl, vwCl, Gr) 0 < ip_B (lg_tbl, vwCl, Gr)) (hL : Lx ≤ 100000) (hj : j + 6 ≤ Lx) (hk : xs j &&& 31 = 2)
    (hi : ∃ (v : Int32) (h1 : ip_H) (S3 : zS), ip_RnM l (lg_tbl, vwCl, Gr) M_H_compile d [.ref 32] (zP (zc n w) 168 S) (some (.int v), h1) ∧ (∃ fs, ip_h h1 105 = some (.inr (12, fs))) ∧ ip_RnM l (lg_tbl, vwCl, Gr) M_Mo_compile d [.ref 105] h1 (some (.int v), zP (zc n w) 168 S3) ∧ Inv S3) : lwT l Gr n w d j (xs j &&& 31) Inv S := by
  obtain ⟨v, h1, S3, c1, ⟨f1, hm⟩, c2, hI⟩ := hi
  obtain ⟨f0, ha⟩ := zw_a0 n w S
  exact ⟨S3, hI, fun r hr => lw_sw2 hk (lw_2 hg hX hb (by omega) hj ha hm c1 c2 hr)⟩
end TCO
