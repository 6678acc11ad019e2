theorem cl_spec {a b p v : Int32} (hab : a ≤ b) (e : ip_max a (ip_min b p) = v) : (¬ a ≤ p → a = v) ∧ (¬ p ≤ b → b = v) ∧ (a ≤ p → p ≤ b → p = v) := by
  have i1 : a.toInt ≤ b.toInt := Int32.le_iff_toInt_le.mp hab
  subst e
  unfold ip_max ip_min
  simp only [Int32.le_iff_toInt_le, Int32.lt_iff_toInt_lt]
  refine ⟨fun h => ?_, fun h => ?_, fun h1 h2 => ?_⟩ <;> (repeat' split) <;> first | rfl | (apply Int32.toInt_inj.mp; omega) | (exfalso; omega)
set_option maxRecDepth 100000 in
theorem mo_n {l : Launch} {Gr} {d a : Nat} {p0 p1 v : Int32} {st : List Value} {h : ip_H} {r : Option Value × ip_H} (e : ip_max 2 (ip_min 16 p0) = v) (k : ip_Rn l (lg_tbl, vwCl, Gr) M_Mo_init d 837 [some (.ref a), some (.int p0), some (.int p1)] (.int v :: st) h r) : ip_Rn l (lg_tbl, vwCl, Gr) M_Mo_init d 816 [some (.ref a), some (.int p0), some (.int p1)] st h r := by
  obtain ⟨c1, c2, c3⟩ := cl_spec (by decide) e
  refine ip_go (G := (lg_tbl, vwCl, Gr)) (ini := true) oV_Mo_init (fun _ => rfl) 2 (pc' := 818) (L' := [some (.ref a), some (.int p0), some (.int p1)]) (st' := .int 2 :: .int p0 :: st) (h' := h) rfl ?_
  by_cases q1 : 2 ≤ p0
  · refine ip_icmp_ge_t (G := (lg_tbl, vwCl, Gr)) (tgt := 825) (oV_Mo_init.1 (818, .if_icmp .ge 7) (ip_lk_mem rfl)) (by decide) q1 ?_
    refine ip_go (G := (lg_tbl, vwCl, Gr)) (ini := true) oV_Mo_init (fun _ => rfl) 2 (pc' := 828) (L' := [some (.ref a), some (.int p0), some (.int p1)]) (st' := .int 16 :: .int p0 :: st) (h' := h) rfl ?_
    by_cases q2 : p0 ≤ 16
    · refine ip_icmp_le_t (G := (lg_tbl, vwCl, Gr)) (tgt := 836) (oV_Mo_init.1 (828, .if_icmp .le 8) (ip_lk_mem rfl)) (by decide) q2 ?_
      refine ip_go (G := (lg_tbl, vwCl, Gr)) (ini := true) oV_Mo_init (fun _ => rfl) 1 (pc' := 837) (L' := [some (.ref a), some (.int p0), some (.int p1)]) (st' := .int p0 :: st) (h' := h) rfl ?_
      rw [← c3 q1 q2] at k
      exact k
    · refine ip_icmp_le_f (G := (lg_tbl, vwCl, Gr)) (tgt := 836) (oV_Mo_init.1 (828, .if_icmp .le 8) (ip_lk_mem rfl)) (by decide) q2 ?_
      refine ip_go (G := (lg_tbl, vwCl, Gr)) (ini := true) oV_Mo_init (fun _ => rfl) 2 (pc' := 837) (L' := [some (.ref a), some (.int p0), some (.int p1)]) (st' := .int 16 :: st) (h' := h) rfl ?_
      rw [c2 q2]
      exact k
  · refine ip_icmp_ge_f (G := (lg_tbl, vwCl, Gr)) (tgt := 825) (oV_Mo_init.1 (818, .if_icmp .ge 7) (ip_lk_mem rfl)) (by decide) q1 ?_
    refine ip_go (G := (lg_tbl, vwCl, Gr)) (ini := true) oV_Mo_init (fun _ => rfl) 2 (pc' := 837) (L' := [some (.ref a), some (.int p0), some (.int p1)]) (st' := .int 2 :: st) (h' := h) rfl ?_
    rw [c1 q1]
    exact k
set_option maxRecDepth 100000 in
theorem mo_w {l : Launch} {Gr} {d a : Nat} {p0 p1 v : Int32} {st : List Value} {h : ip_H} {r : Option Value × ip_H} (e : ip_max 1 (ip_min 32 p1) = v) (k : ip_Rn l (lg_tbl, vwCl, Gr) M_Mo_init d 862 [some (.ref a), some (.int p0), some (.int p1)] (.int v :: st) h r) : ip_Rn l (lg_tbl, vwCl, Gr) M_Mo_init d 841 [some (.ref a), some (.int p0), some (.int p1)] st h r := by
  obtain ⟨c1, c2, c3⟩ := cl_spec (by decide) e
  refine ip_go (G := (lg_tbl, vwCl, Gr)) (ini := true) oV_Mo_init (fun _ => rfl) 2 (pc' := 843) (L' := [some (.ref a), some (.int p0), some (.int p1)]) (st' := .int 1 :: .int p1 :: st) (h' := h) rfl ?_
  by_cases q1 : 1 ≤ p1
  · refine ip_icmp_ge_t (G := (lg_tbl, vwCl, Gr)) (tgt := 850) (oV_Mo_init.1 (843, .if_icmp .ge 7) (ip_lk_mem rfl)) (by decide) q1 ?_
    refine ip_go (G := (lg_tbl, vwCl, Gr)) (ini := true) oV_Mo_init (fun _ => rfl) 2 (pc' := 853) (L' := [some (.ref a), some (.int p0), some (.int p1)]) (st' := .int 32 :: .int p1 :: st) (h' := h) rfl ?_
    by_cases q2 : p1 ≤ 32
    · refine ip_icmp_le_t (G := (lg_tbl, vwCl, Gr)) (tgt := 861) (oV_Mo_init.1 (853, .if_icmp .le 8) (ip_lk_mem rfl)) (by decide) q2 ?_
      refine ip_go (G := (lg_tbl, vwCl, Gr)) (ini := true) oV_Mo_init (fun _ => rfl) 1 (pc' := 862) (L' := [some (.ref a), some (.int p0), some (.int p1)]) (st' := .int p1 :: st) (h' := h) rfl ?_
      rw [← c3 q1 q2] at k
      exact k
    · refine ip_icmp_le_f (G := (lg_tbl, vwCl, Gr)) (tgt := 861) (oV_Mo_init.1 (853, .if_icmp .le 8) (ip_lk_mem rfl)) (by decide) q2 ?_
      refine ip_go (G := (lg_tbl, vwCl, Gr)) (ini := true) oV_Mo_init (fun _ => rfl) 2 (pc' := 862) (L' := [some (.ref a), some (.int p0), some (.int p1)]) (st' := .int 32 :: st) (h' := h) rfl ?_
      rw [c2 q2]
      exact k
  · refine ip_icmp_ge_f (G := (lg_tbl, vwCl, Gr)) (tgt := 850) (oV_Mo_init.1 (843, .if_icmp .ge 7) (ip_lk_mem rfl)) (by decide) q1 ?_
    refine ip_go (G := (lg_tbl, vwCl, Gr)) (ini := true) oV_Mo_init (fun _ => rfl) 2 (pc' := 862) (L' := [some (.ref a), some (.int p0), some (.int p1)]) (st' := .int 1 :: st) (h' := h) rfl ?_
    rw [c1 q1]
    exact k
