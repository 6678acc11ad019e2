/-! the law's loop over the store -/
abbrev lwL (j : Nat) : zL := [some (.ref 0), some (.ref 32), some (.ref 105), some (.int (nI j))]
/-- one turn: from the switch to the next turn's beginning, the store's Inv again -/
def lwT (l : Launch) (Gr : zG) (n w d j : Nat) (x : Int32) (Inv : zS → Prop) (S : zS) : Prop := ∃ S2 : zS, Inv S2 ∧ ∀ r, ip_Rn l (lg_tbl, vwCl, Gr) M_La_law (d + 1) 787 (lwL j) [] (zP (zc n w) 168 S2) r → ip_Rn l (lg_tbl, vwCl, Gr) M_La_law (d + 1) 53 (lwL j) [.int x] (zP (zc n w) 168 S) r
theorem wl_loop {l : Launch} {Gr : zG} {n w d Lx : Nat} {xs : Nat → Int32} (hX : ∀ U : State, ip_X (lg_tbl, vwCl, Gr) U → va_X (ip_O (lg_tbl, vwCl, Gr) 0) Lx xs U U.heap) (hb : ip_O (lg_tbl, vwCl, Gr) 0 < ip_B (lg_tbl, vwCl, Gr)) (hL : Lx ≤ 100000) {Inv : zS → Prop}
    (hs : ∀ (k j : Nat) (S : zS), k < 20 → j + 6 ≤ Lx → xs j &&& 31 = nI k → Inv S → lwT l Gr n w d j (xs j &&& 31) Inv S) : ∀ (m j : Nat) (S : zS), Lx < j + 6 + 6 * m → j ≤ 100006 → Inv S → ∃ S' : zS, ip_Rn l (lg_tbl, vwCl, Gr) M_La_law (d + 1) 38 (lwL j) [] (zP (zc n w) 168 S) (some (.int 1), zP (zc n w) 168 S')
  | 0, j, S, h, hj, _ => ⟨S, lw_exit hX hb hL (by omega) (by omega)⟩
  | m + 1, j, S, h, hj, hI => by
    by_cases q : Lx < j + 6
    · exact ⟨S, lw_exit hX hb hL (by omega) q⟩
    · obtain ⟨k, hk, e⟩ := lw_op (xs j)
      by_cases h20 : k < 20
      · obtain ⟨S2, hI2, go⟩ := hs k j S h20 (by omega) e hI
        obtain ⟨S', hR⟩ := wl_loop hX hb hL hs m (j + 6) S2 (by omega) (by omega) hI2
        exact ⟨S', lw_enter hX hb hL (by omega) (go _ (lw_next hR))⟩
      · obtain ⟨S', hR⟩ := wl_loop hX hb hL hs m (j + 6) S (by omega) (by omega) hI
        exact ⟨S', lw_enter hX hb hL (by omega) (lw_swd (by rw [e, nI_toInt (by omega)]; omega) (lw_next hR))⟩
theorem zw_a0 (n w : Nat) (S : zS) : ∃ fs, ip_h (zP (zc n w) 168 S) 32 = some (.inr (11, fs)) := ⟨_, z_h (c := 0) (by decide)⟩
theorem zw_m0 (n w : Nat) (S : zS) : ∃ fs, ip_h (zP (zc n w) 168 S) 105 = some (.inr (12, fs)) := ⟨_, z_h (c := 73) (by decide)⟩
section TURNS
variable {l : Launch} {Gr : zG} {n w d j Lx : Nat} {xs : Nat → Int32} {Inv : zS → Prop} {S : zS}
theorem t_end (hg : ip_gk (lg_tbl, vwCl, Gr)) (hX : ∀ U : State, ip_X (lg_tbl, vwCl, Gr) U → va_X (ip_O (lg_tbl, vwCl, Gr) 0) Lx xs U U.heap) (hb : ip_O (lg_tbl, vwCl, Gr) 0 < ip_B (lg_tbl, vwCl, Gr)) (hL : Lx ≤ 100000) (hj : j + 6 ≤ Lx) (hk : xs j &&& 31 = 1)
    (hi : ∃ (v : Int32) (S1 : zS), ip_RnM l (lg_tbl, vwCl, Gr) M_H_end d [.ref 32, .int (xs (j + 1))] (zP (zc n w) 168 S) (some (.int v), zP (zc n w) 168 S1) ∧ ∃ S2 : zS, ip_RnM l (lg_tbl, vwCl, Gr) M_Mo_end d [.ref 105, .int (xs (j + 1))] (zP (zc n w) 168 S1) (some (.int v), zP (zc n w) 168 S2) ∧ Inv S2) : lwT l Gr n w d j (xs j &&& 31) Inv S := by
  obtain ⟨v, S1, c1, S2, c2, hI⟩ := hi
  obtain ⟨f0, ha⟩ := zw_a0 n w S
  obtain ⟨f1, hm⟩ := zw_m0 n w S1
  exact ⟨S2, hI, fun r hr => lw_sw1 hk (lw_1 hg hX hb (by omega) hj ha hm c1 c2 hr)⟩
end TURNS
