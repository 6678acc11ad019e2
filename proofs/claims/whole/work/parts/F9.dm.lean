/-! draws of the reference's shareAll() -/
section DRM
variable {l : Launch} {Gr : zG} {n w d q f i : Nat} {S S' S'' : zS} {s x x1 x2 x3 x4 : Int32} {Qs : Nat → Int32} {Q : Option Value → zS → Prop} {le : Nat → Bool}
/-- the mask of one input's bit -/
theorem md_35 (hg : ip_gk (lg_tbl, vwCl, Gr)) (hn : n ≤ 16) (hle : ∀ p, p < n → (le p = true ↔ nI p = x3)) : ∀ c p i x S, p + c = n → DMq q f Qs s i S → (∀ S', DMq q f Qs s (dBut q Qs s le c p i x).2 S' → FDm S S' → zW l Gr (zc n w) 168 M_Mo_shareAll (d + 1) 72 [some (.ref 105), some (.int x1), some (.int x2), some (.int x3), some (.int (dBut q Qs s le c p i x).1), none] [] S' Q) → zW l Gr (zc n w) 168 M_Mo_shareAll (d + 1) 35 [some (.ref 105), some (.int x1), some (.int x2), some (.int x3), some (.int x), some (.int (nI p))] [] S Q
  | 0, p, i, x, S, h, hD, kk => by
    have ep : p = n := by omega
    exact b_Mo_shareAll_35 (fun _ => kk S hD FDm_rfl) (fun y => absurd (nI_le (by omega) (by omega)) y)
  | c + 1, p, i, x, S, h, hD, kk => by
    refine b_Mo_shareAll_35 (fun y => absurd y (nI_ge (by omega) (by omega))) (fun _ => b_Mo_shareAll_44 (fun y => b_Mo_shareAll_56 hg (wm_draw hD) (fun v S' hS => b_Mo_shareAll_60 (b_Mo_shareAll_63 ?_))) (fun y => b_Mo_shareAll_52 (b_Mo_shareAll_63 ?_)))
    · have e : dBut q Qs s le (c + 1) p i x = dBut q Qs s le c (p + 1) (i + 1) (x ||| (dB q Qs s i <<< (nI p &&& 31))) := if_neg (fun z => y ((hle p (by omega)).mp z))
      rw [e] at kk
      obtain ⟨rfl, h2, h3⟩ := hS
      rw [show nI p + Int32.ofInt 1 = nI (p + 1) from nI_add p 1]
      exact md_35 hg hn hle c (p + 1) (i + 1) _ S' (by omega) h2 (fun S2 a1 a2 => kk S2 a1 (FDm_tr h3 a2))
    · have e : dBut q Qs s le (c + 1) p i x = dBut q Qs s le c (p + 1) i x := if_pos ((hle p (by omega)).mpr y)
      rw [e] at kk
      rw [show nI p + Int32.ofInt 1 = nI (p + 1) from nI_add p 1, show x ||| (0 : Int32) = x from Int32.or_zero]
      exact md_35 hg hn hle c (p + 1) i x S (by omega) hD kk
/-- a triple's three masks -/
theorem md_153 (hg : ip_gk (lg_tbl, vwCl, Gr)) (hn : n ≤ 16) : ∀ c p i x S, p + c = n → DMq q f Qs s i S → (∀ S', DMq q f Qs s (dBut q Qs s (fun _ => false) c p i x).2 S' → FDm S S' → zW l Gr (zc n w) 168 M_Mo_shareAll (d + 1) 178 [some (.ref 105), some (.int x1), some (.int (dBut q Qs s (fun _ => false) c p i x).1), some (.int x3), some (.int x4), none] [] S' Q) → zW l Gr (zc n w) 168 M_Mo_shareAll (d + 1) 153 [some (.ref 105), some (.int x1), some (.int x), some (.int x3), some (.int x4), some (.int (nI p))] [] S Q
  | 0, p, i, x, S, h, hD, kk => by
    have ep : p = n := by omega
    exact b_Mo_shareAll_153 (fun _ => kk S hD FDm_rfl) (fun y => absurd (nI_le (by omega) (by omega)) y)
  | c + 1, p, i, x, S, h, hD, kk => by
    refine b_Mo_shareAll_153 (fun y => absurd y (nI_ge (by omega) (by omega))) (fun _ => b_Mo_shareAll_162 hg (wm_draw hD) (fun v S' hS => b_Mo_shareAll_167 ?_))
    have e : dBut q Qs s (fun _ => false) (c + 1) p i x = dBut q Qs s (fun _ => false) c (p + 1) (i + 1) (x ||| (dB q Qs s i <<< (nI p &&& 31))) := if_neg Bool.false_ne_true
    rw [e] at kk
    obtain ⟨rfl, h2, h3⟩ := hS
    rw [show nI p + Int32.ofInt 1 = nI (p + 1) from nI_add p 1]
    exact md_153 hg hn c (p + 1) (i + 1) _ S' (by omega) h2 (fun S2 a1 a2 => kk S2 a1 (FDm_tr h3 a2))
theorem md_181 (hg : ip_gk (lg_tbl, vwCl, Gr)) (hn : n ≤ 16) : ∀ c p i x S, p + c = n → DMq q f Qs s i S → (∀ S', DMq q f Qs s (dBut q Qs s (fun _ => false) c p i x).2 S' → FDm S S' → zW l Gr (zc n w) 168 M_Mo_shareAll (d + 1) 206 [some (.ref 105), some (.int x1), some (.int x2), some (.int (dBut q Qs s (fun _ => false) c p i x).1), some (.int x4), none] [] S' Q) → zW l Gr (zc n w) 168 M_Mo_shareAll (d + 1) 181 [some (.ref 105), some (.int x1), some (.int x2), some (.int x), some (.int x4), some (.int (nI p))] [] S Q
  | 0, p, i, x, S, h, hD, kk => by
    have ep : p = n := by omega
    exact b_Mo_shareAll_181 (fun _ => kk S hD FDm_rfl) (fun y => absurd (nI_le (by omega) (by omega)) y)
  | c + 1, p, i, x, S, h, hD, kk => by
    refine b_Mo_shareAll_181 (fun y => absurd y (nI_ge (by omega) (by omega))) (fun _ => b_Mo_shareAll_190 hg (wm_draw hD) (fun v S' hS => b_Mo_shareAll_195 ?_))
    have e : dBut q Qs s (fun _ => false) (c + 1) p i x = dBut q Qs s (fun _ => false) c (p + 1) (i + 1) (x ||| (dB q Qs s i <<< (nI p &&& 31))) := if_neg Bool.false_ne_true
    rw [e] at kk
    obtain ⟨rfl, h2, h3⟩ := hS
    rw [show nI p + Int32.ofInt 1 = nI (p + 1) from nI_add p 1]
    exact md_181 hg hn c (p + 1) (i + 1) _ S' (by omega) h2 (fun S2 a1 a2 => kk S2 a1 (FDm_tr h3 a2))
theorem md_209 (hg : ip_gk (lg_tbl, vwCl, Gr)) (hn : n ≤ 16) (hle : ∀ p, 1 ≤ p → le p = false) : ∀ c p i x S, 1 ≤ p → p + c = n → DMq q f Qs s i S → (∀ S', DMq q f Qs s (dBut q Qs s le c p i x).2 S' → FDm S S' → zW l Gr (zc n w) 168 M_Mo_shareAll (d + 1) 236 [some (.ref 105), some (.int x1), some (.int x2), some (.int x3), some (.int (dBut q Qs s le c p i x).1), none] [] S' Q) → zW l Gr (zc n w) 168 M_Mo_shareAll (d + 1) 209 [some (.ref 105), some (.int x1), some (.int x2), some (.int x3), some (.int x), some (.int (nI p))] [] S Q
  | 0, p, i, x, S, h1, h, hD, kk => by
    have ep : p = n := by omega
    exact b_Mo_shareAll_209 (fun _ => kk S hD FDm_rfl) (fun y => absurd (nI_le (by omega) (by omega)) y)
  | c + 1, p, i, x, S, h1, h, hD, kk => by
    refine b_Mo_shareAll_209 (fun y => absurd y (nI_ge (by omega) (by omega))) (fun _ => b_Mo_shareAll_218 hg (wm_draw hD) (fun v S' hS => b_Mo_shareAll_224 ?_))
    have e : dBut q Qs s le (c + 1) p i x = dBut q Qs s le c (p + 1) (i + 1) (x ||| (dB q Qs s i <<< (nI p &&& 31))) := if_neg (by rw [hle p h1]; decide)
    rw [e] at kk
    obtain ⟨rfl, h2, h3⟩ := hS
    rw [show nI p + Int32.ofInt 1 = nI (p + 1) from nI_add p 1]
    exact md_209 hg hn hle c (p + 1) (i + 1) _ S' (by omega) (by omega) h2 (fun S2 a1 a2 => kk S2 a1 (FDm_tr h3 a2))
end DRM
