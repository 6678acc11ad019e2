theorem enS_1 {S : zS} {m t c k : Nat} (h0 : c ≠ 0) (h1 : c ≠ 1) (h2 : c ≠ 2) : (enS S m t).1 c k = S.1 c k := by
  unfold enS zfill
  rw [zI_c h1, zi_c h0, zI_c h2]
section OP1
variable {l : Launch} {Gr : zG} {n w : Nat} {d : Nat} {S : zS}
/-- end(n) on both: one answer, and the tie again -/
theorem o_end (hg : ip_gk (lg_tbl, vwCl, Gr)) {x1 : Int32} (h : iRT S) : ∃ (v : Int32) (S1 : zS), ip_RnM l (lg_tbl, vwCl, Gr) M_H_end (d + 1) [.ref 32, .int x1] (zP (zc n w) 168 S) (some (.int v), zP (zc n w) 168 S1) ∧ ∃ S2 : zS, ip_RnM l (lg_tbl, vwCl, Gr) M_Mo_end (d + 1) [.ref 105, .int x1] (zP (zc n w) 168 S1) (some (.int v), zP (zc n w) 168 S2) ∧ iRT S2 ∧ (∀ c, 3 ≤ c → c ≠ 73 → c ≠ 74 → c ≠ 75 → S2.1 c = S.1 c) ∧ (∀ k, k ≠ 5 → S2.1 73 k = S.1 73 k) ∧ (∀ k, k ≠ 4 → S2.1 0 k = S.1 0 k) ∧ S2.2 = S.2 := by
  obtain ⟨t, ht, a1, a2, a3, a4⟩ := h
  obtain ⟨_, S1, ⟨v, rfl, hv⟩, c1⟩ := w_end (l := l) (Gr := Gr) (n := n) (w := w) (d := d) (x1 := x1) hg ht a1 (fun k hk => bt_fits (a3 k hk))
  rcases hv with ⟨rfl, rfl, hv⟩ | ⟨m, rfl, hm, h5, htx, rfl, rfl⟩
  · obtain ⟨_, S2, ⟨u, rfl, hu⟩, c2⟩ := wm_end (l := l) (Gr := Gr) (n := n) (w := w) (d := d + 1) (S := S1) (x1 := x1) ht a2
    rcases hu with ⟨rfl, rfl, -⟩ | ⟨m, e, hm, h5, htx, -, -⟩
    · exact ⟨_, _, c1, S2, c2, ⟨t, ht, a1, a2, a3, a4⟩, fun _ _ _ _ _ => rfl, fun _ _ => rfl, fun _ _ => rfl, rfl⟩
    · exact absurd (fun k hk => (bt_tx (a3 k (by omega))).1.mpr (htx k hk)) (hv m e hm h5)
  · have b2 : (enS S m t).1 73 5 = nI t := by rw [enS_1 (by decide) (by decide) (by decide)]; exact a2
    have b74 : ∀ k, (enS S m t).1 74 k = S.1 74 k := fun k => enS_1 (by decide) (by decide) (by decide)
    obtain ⟨_, S2, ⟨u, rfl, hu⟩, c2⟩ := wm_end (l := l) (Gr := Gr) (n := n) (w := w) (d := d + 1) (S := enS S m t) (x1 := nI m) ht b2
    rcases hu with ⟨rfl, rfl, hu⟩ | ⟨m', e, hm', h5', htx', rfl, T, hT, h2⟩
    · exact absurd (fun k hk => by rw [b74]; exact (bt_tx (a3 k (by omega))).1.mp (htx k hk)) (hu m rfl hm h5)
    · have : m = m' := (nI_eq (by omega) (by omega)).mp e
      subst this
      have r : ∀ c k, c ≠ 73 → c ≠ 74 → c ≠ 75 → S2.1 c k = (enS S m t).1 c k := fun c k q1 q2 q3 => by
        rw [h2.1 c q2, zi_c q1, hT.1 c q3]
      refine ⟨_, _, c1, S2, c2, ⟨t + m, h5, ?_, ?_, fun k hk => ?_, fun k hk => ?_⟩, fun c q0 q1 q2 q3 => ?_, fun k hk => ?_, fun k hk => ?_, ?_⟩
      · rw [r 0 4 (by decide) (by decide) (by decide)]
        unfold enS zfill
        rw [zI_c (by decide), zi_v]
      · rw [h2.1 73 (by decide)]
        exact zi_v
      · have e2 := h2.2.2.2 k hk
        rw [Nat.zero_add] at e2
        rw [e2, r 1 k (by decide) (by decide) (by decide)]
        have : (enS S m t).1 1 k = 0 := by
          show (if k < 20 then (0 : Int32) else _) = 0
          rw [if_pos hk]
        rw [this]
        exact bt_0
      · have e2 : S2.1 2 k = va_cpy (S.1 1) (S.1 2) 0 t m k := by
          rw [r 2 k (by decide) (by decide) (by decide)]
          unfold enS zfill
          rw [zI_c (by decide), zi_c (by decide)]
          rfl
        have e75 : S2.1 75 k = T.1 75 k := by rw [h2.1 75 (by decide), zi_c (by decide)]
        by_cases q : t ≤ k
        · have q2 : k - t < m := by omega
          have e3 : va_cpy (S.1 1) (S.1 2) 0 t m k = S.1 1 (k - t) := by
            show (if t ≤ k ∧ k < t + m then S.1 1 (0 + (k - t)) else _) = _
            rw [if_pos ⟨q, hk⟩, Nat.zero_add]
          have e4 := hT.2.2.2 (k - t) q2
          rw [show t + (k - t) = k by omega, b74] at e4
          have z := bt_tx (a3 (k - t) (by omega))
          have z1 := htx (k - t) q2
          rw [e2, e3, e75, e4]
          exact ⟨z1, (z.2 (z.1.mp z1)).symm⟩
        · have e3 : va_cpy (S.1 1) (S.1 2) 0 t m k = S.1 2 k := by
            show (if t ≤ k ∧ k < t + m then _ else S.1 2 k) = _
            rw [if_neg (fun z => q z.1)]
          have e4 := hT.2.2.1 k (Or.inl (by omega))
          rw [enS_1 (by decide) (by decide) (by decide)] at e4
          rw [e2, e3, e75, e4]
          exact a4 k (by omega)
      · funext k
        rw [r c k q1 q2 q3, enS_1 (by omega) (by omega) (by omega)]
      · rw [h2.1 73 (by decide), zi_k hk, hT.1 73 (by decide), enS_1 (by decide) (by decide) (by decide)]
      · rw [r 0 k (by decide) (by decide) (by decide)]
        unfold enS zfill
        rw [zI_c (by decide), zi_k hk, zI_c (by decide)]
      · rw [h2.2.1]
        show T.2 = S.2
        rw [hT.2.1]
        rfl
end OP1
