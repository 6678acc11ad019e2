/-! SORTS of every EXPR on both sides -/
section LAll
variable {l : Launch} {Gr : zG} {n w : Nat} {d : Nat} {A : Nat → Nat → Prop} {b : Nat → Int32} {t N D m f sz mz : Nat} {S0 T0 : zS}
theorem gA_len {ni : Nat → Nat → Prop} {hd cl K : Nat} : ∀ k i i' j j', gA S0 T0 (gE w S0 T0 ni K) hd cl k i i' j j' → i + k ≤ i'
  | 0, i, i', j, j', h => Nat.le_of_eq h.1.symm
  | k + 1, i, i', j, j', h => by
    obtain ⟨i1, j1, p1, i2, j2, h1, h2, e1, e2, -⟩ := h
    have b2 := gE_bnd K _ _ _ _ _ h2
    have a1 := gA_len k _ _ _ _ h1
    omega
set_option maxHeartbeats 1000000 in
theorem ex_all (hg : ip_gk (lg_tbl, vwCl, Gr)) : ∀ K, EXH l Gr n w d b t N D m f A sz mz S0 T0 K
  | 0 => fun p i i' j j' tp mp c S T h _ _ _ _ _ _ _ => h.elim
  | K + 1 => fun p i i' j j' tp mp c S T h cs ct hni hL hsz hmz hB => by
    have IH := ex_all hg K
    have hs4 := hL.2.1.2.1
    have hm4 := hL.2.2.2.1.2.1
    have ne0 := (gE_ne (K + 1) _ _ _ _ _ h (by omega)).1
    have at0 := HB_at hB ne0 (Nat.le_refl _)
    have sub : ∀ {q a1 a2 b1 b2 tp1 mp1 c1 : Nat} {d1 d2 : Int} {S1 T1 : zS}, gE w S0 T0 (nid b t T0) K q a1 a2 b1 b2 → NE S0 i a1 d1 d2 → i ≤ a1 → a2 ≤ i' → j ≤ b1 → b2 ≤ j' → (tp1 : Int) + c1 = tp + c + d1 → (mp1 : Int) = mp + d2 → LX b t N D m f A tp1 mp1 c1 sz mz S1 T1 → cgS S0 S1 a1 a2 → cgT T0 T1 b1 b2 → (∀ v p, nid b t T0 v p → nid b t T1 v p) → EXO l Gr n w d b t N D m f A tp1 mp1 c1 sz mz S1 T1 q a1 a2 b1 b2 := fun g ne q1 q2 q3 q4 e1 e2 hL1 cs1 ct1 hn1 =>
      IH _ _ _ _ _ _ _ _ _ _ g cs1 ct1 hn1 hL1 (by omega) (by omega) (HB_sub hB ne q2 e1 e2)
    rcases h with h | h | h | h | h | h | h | h | h | h | h
    · obtain ⟨v, hv, e1, e2, s4, s5, t1, t2, t3, t82⟩ := h
      subst e1 e2
      exact ex_num hg hL (by omega) (by omega) hsz hmz ((cs i (by omega) (by omega)).1.trans s4) ((ct j (by omega) (by omega)).1.trans t1) ((ct (j + 1) (by omega) (by omega)).1.trans t2) ((ct (j + 1) (by omega) (by omega)).2.2.2.1.trans t3) hv ((cs i (by omega) (by omega)).2.1.trans s5) ((ct (j + 1) (by omega) (by omega)).2.2.2.2.trans t82)
    · obtain ⟨e1, e2, s4, t1, t3, t2⟩ := h
      subst e1 e2
      exact ex_tru hg hL (by omega) (by omega) hsz hmz ((cs i (by omega) (by omega)).1.trans s4) ((ct j (by omega) (by omega)).1.trans t1) (by rw [(cs i (by omega) (by omega)).2.1, (ct (j + 1) (by omega) (by omega)).1]; exact t2) ((ct (j + 1) (by omega) (by omega)).2.2.2.1.trans t3)
    · obtain ⟨v, hv, e1, e2, s4, s6, t1, t2, t4, t3⟩ := h
      subst e1 e2
      have q0 := cs i (by omega) (by omega)
      have q1 := ct (j + 1) (by omega) (by omega)
      exact ex_nam hg hL (by omega) (by omega) hsz hmz (q0.1.trans s4) (q0.2.2.1.trans s6) ((ct j (by omega) (by omega)).1.trans t1) (q1.1.trans t2) (q1.2.1.trans t4) (q1.2.2.2.1.trans t3) (hni _ _ hv)
    · obtain ⟨v, p1, i1, j1, hv, g, e1, e2, s1, s2, s3, s4, s5, s6, s7, t1, t2, t3, t4, t5, t6, t7⟩ := h
      subst e1 e2
      have bd := gE_bnd K _ _ _ _ _ g
      have q0 := cs i (by omega) (by omega)
      have q1 := cs i1 (by omega) (by omega)
      have q2 := cs (i1 + 1) (by omega) (by omega)
      have r1 := ct (j + 1) (by omega) (by omega)
      have r2 := ct j1 (by omega) (by omega)
      exact ex_elt hg hL (by omega) (by omega) (by omega) (by omega) (by omega) (by omega) (q0.1.trans s1) (q0.2.2.1.trans s2) (q1.1.trans s3) (q1.2.1.trans s4) (q1.2.2.1.trans s5) (q2.1.trans s6) (q2.2.1.trans s7) ((ct j (by omega) (by omega)).1.trans t1) (r1.1.trans t2) (r1.2.1.trans t3) (r1.2.2.2.1.trans t4) (r2.1.trans t5) (r2.2.1.trans t6) (r2.2.2.2.1.trans t7) (hni _ _ hv) (fun S1 T1 L1 kc km => sub g (NE_1 (e1 := 0) (e2 := 0) s1 (by decide) (by decide) (by decide)) (by omega) (by omega) (by omega) (by omega) (by omega) (by omega) L1 (cg_c (cgS_sub cs (by omega) (by omega)) kc (Nat.le_refl _)) (cg_m (cgT_sub ct (by omega) (by omega)) km (Nat.le_refl _)) (fun v p y => nid_m (hni v p y) km))
    · obtain ⟨v, k, i1, j1, hv, g, e1, e2, s1, s2, s7, s3, s4, t1, t2, t3, t8, t4, t5, t6, t7⟩ := h
      subst e1 e2
      have bd := gA_bnd (gE_bnd K) _ _ _ _ _ g
      have nea := gA_ne2 k _ _ _ _ g (by omega)
      have hk : i + 1 + k ≤ i1 := gA_len k _ _ _ _ g
      have n1 := NE_1 (S := S0) (e1 := 1) (e2 := 0) s1 (by decide) (by decide) (by decide)
      have at1 := HB_at hB n1 (by omega)
      have q0 := cs i (by omega) (by omega)
      have q1 := cs i1 (by omega) (by omega)
      have r1 := ct (j + 1) (by omega) (by omega)
      have r2 := ct j1 (by omega) (by omega)
      rcases ex_ca0 (l := l) (Gr := Gr) (n := n) (w := w) (d := d) (aa := k) hg hL (by omega) (by omega) (by omega) (q0.1.trans s1) (q0.2.2.1.trans s2) (q0.2.2.2.trans s7) ((ct j (by omega) (by omega)).1.trans t1) (r1.1.trans t2) (r1.2.1.trans t3) (r1.2.2.1.trans t8) (r1.2.2.2.1.trans t4) (by omega) (hni _ _ hv) with ⟨u, d', q, r, S1, T1, c1, c2, c3, c4, c5, c6, c7⟩ | hF
      · have k1 : S1 = kR b t (i + 1 - i) i S := by rw [show i + 1 - i = 1 by omega, kR_1 hL.2.1.2.2]; exact c2
        have hB1 : HB S0 (i + 1) i1 tp mp (c + 1) := HB_sub hB n1 (by omega) (by omega) (by omega)
        rcases ex_args (i' := i1) (j' := j1) hg IH c4 c7 (fun v p y => nid_m (hni v p y) c6) (by omega) (by omega) (by omega) (cg_c (cgS_sub cs (by omega) (by omega)) c5 (Nat.le_refl _)) (cg_m (cgT_sub ct (by omega) (by omega)) c6 (Nat.le_refl _)) hB1 k i1 j1 (Nat.le_refl _) (Nat.le_refl _) (Nat.le_refl _) g with ⟨S2, T2, a1, a2, a3, a4, a5, a6, a7⟩ | hF
        · have kc : KKc S S2 i i1 tp := KKc_tr c5 a5 (by omega) (by omega) (Nat.le_refl _)
          have km : KKm T T2 j j1 mp c := KKm_tr c6 a6 (by omega) (by omega) (Nat.le_refl _) (by omega)
          have w0 : ∀ cc, cc = 4 ∨ cc = 5 → S2.1 cc i1 = S.1 cc i1 := fun cc hc => kc.1 cc i1 (by omega) (by omega) (by omega) (by omega)
          have w1 : ∀ cc, cc = 78 ∨ cc = 81 → T2.1 cc j1 = T.1 cc j1 := fun cc hc => km.1 cc j1 (by omega) (by omega) (by omega) (by omega)
          obtain ⟨S3, T3, g1, g2, g3, g4, g5, g6, P⟩ := ex_ca1 (l := l) (Gr := Gr) (n := n) (w := w) (d := d) (b := b) (p := p) (i1 := i1) (j1 := j1) hg a4 (by omega) (by omega) (by omega) (by omega) (by omega) (by omega) (CLS_k c7 a5 a6 (by omega) (by omega)) ((w0 4 (by omega)).trans (q1.1.trans s3)) ((w0 5 (by omega)).trans (q1.2.1.trans s4)) ((w1 78 (by omega)).trans (r2.1.trans t5)) ((w1 81 (by omega)).trans (r2.2.2.2.1.trans t7)) bd.2 ((kc.1 4 i (by omega) (by omega) (by omega) (by omega)).trans (q0.1.trans s1)) ((km.1 78 j (by omega) (by omega) (by omega) (by omega)).trans ((ct j (by omega) (by omega)).1.trans t1)) ((km.1 78 (j + 1) (by omega) (by omega) (by omega) (by omega)).trans (r1.1.trans t2)) a7
          have k2 := kR_cat k1 a2 (by omega) (by omega)
          refine Or.inl ⟨S3, T3, CG_tr c1 (CG_tr a1 g1), ?_, RG_tr c3 (RG_tr a3 g3), g4, KKc_tr kc g5 (by omega) (by omega) (Nat.le_refl _), KKm_tr km g6 (by omega) (by omega) (Nat.le_refl _) (Nat.le_refl _), P⟩
          rw [g2]
          exact kR_s k2 a4.2.1.2.2 (by omega)
        · exact Or.inr (FLT_pre c1 k1 c3 (by omega) (FLT_up hF (by omega)))
      · exact Or.inr (FLT_up hF (by omega))
    · obtain ⟨p1, i1, j1, g, e1, e2, s1, s2, s3, t1, t2, t3⟩ := h
      subst e1 e2
      have bd := gE_bnd K _ _ _ _ _ g
      have q1 := cs i1 (by omega) (by omega)
      have r1 := ct j1 (by omega) (by omega)
      exact ex_int hg hL (by omega) (by omega) (by omega) (by omega) (by omega) (by omega) ((cs i (by omega) (by omega)).1.trans s1) (q1.1.trans s2) (q1.2.2.1.trans s3) ((ct j (by omega) (by omega)).1.trans t1) (r1.1.trans t2) (r1.2.2.2.1.trans t3) (sub g (NE_1 (e1 := 0) (e2 := 0) s1 (by decide) (by decide) (by decide)) (by omega) (by omega) (by omega) (by omega) (by omega) (by omega) hL (cgS_sub cs (by omega) (by omega)) (cgT_sub ct (by omega) (by omega)) hni)
    · obtain ⟨p1, i1, j1, p2, i2, j2, g, g2, e1, e2, s1, s2, s3, s4, s5, t1, t2, t3, t4, t5⟩ := h
      subst e1 e2
      have bd := gE_bnd K _ _ _ _ _ g
      have bd2 := gE_bnd K _ _ _ _ _ g2
      have n1 := NE_1 (S := S0) (e1 := 0) (e2 := 0) s1 (by decide) (by decide) (by decide)
      have n2 := NE_app (NE_app n1 (gE_ne K _ _ _ _ _ g (by omega)).1) (NE_1 (S := S0) (e1 := 0) (e2 := 0) s2 (by decide) (by decide) (by decide))
      have n3 := HB_at hB (NE_app n2 (gE_ne K _ _ _ _ _ g2 (by omega)).1) (by omega)
      have q1 := cs i1 (by omega) (by omega)
      have q2 := cs i2 (by omega) (by omega)
      have r1 := ct j1 (by omega) (by omega)
      have r2 := ct j2 (by omega) (by omega)
      exact ex_bit hg hL (by omega) (by omega) (by omega) (by omega) (by omega) (by omega) (by omega) (by omega) (by omega) ((cs i (by omega) (by omega)).1.trans s1) (q1.1.trans s2) (q1.2.2.1.trans s3) (q2.1.trans s4) (q2.2.2.1.trans s5) ((ct j (by omega) (by omega)).1.trans t1) (r1.1.trans t2) (r1.2.1.trans t3) (r2.1.trans t4) (r2.2.2.2.1.trans t5) (sub g n1 (by omega) (by omega) (by omega) (by omega) (by omega) (by omega) hL (cgS_sub cs (by omega) (by omega)) (cgT_sub ct (by omega) (by omega)) hni) (fun S1 T1 L1 kc km => sub g2 n2 (by omega) (by omega) (by omega) (by omega) (by omega) (by omega) L1 (cg_c (cgS_sub cs (by omega) (by omega)) kc (Nat.le_refl _)) (cg_m (cgT_sub ct (by omega) (by omega)) km (Nat.le_refl _)) (fun v p y => nid_m (hni v p y) km))
    · obtain ⟨p1, i1, j1, g, e1, e2, s6, t2, t3, so⟩ := h
      subst e1 e2
      have bd := gE_bnd K _ _ _ _ _ g
      have q1 := cs i1 (by omega) (by omega)
      have r1 := ct j1 (by omega) (by omega)
      refine ex_una hg hL (by omega) (by omega) (by omega) (by omega) (by omega) (by omega) (q1.2.2.1.trans s6) (r1.1.trans t2) (r1.2.2.2.1.trans t3) ?_ (sub g NE_nil (Nat.le_refl _) (by omega) (Nat.le_refl _) (by omega) (by omega) (by omega) hL (cgS_sub cs (by omega) (by omega)) (cgT_sub ct (by omega) (by omega)) hni)
      rw [q1.1, r1.2.1]
      exact so
    · obtain ⟨i1, j1, p2, i2, j2, o, a, g, g2, o1, o2, e1, e2, s4, s6, s7, t2, t3, t4⟩ := h
      subst e1 e2
      have bd := gE_bnd K _ _ _ _ _ g
      have bd2 := gE_bnd K _ _ _ _ _ g2
      have n1 := (gE_ne K _ _ _ _ _ g (by omega)).1
      have n2 := HB_at hB (NE_app n1 (gE_ne K _ _ _ _ _ g2 (by omega)).1) (by omega)
      have q2 := cs i2 (by omega) (by omega)
      have r2 := ct j2 (by omega) (by omega)
      exact ex_bin hg (by omega) (by omega) (by omega) (by omega) (by omega) (by omega) (by omega) (by omega) o1 o2 (q2.1.trans s4) (q2.2.2.1.trans s6) (q2.2.2.2.trans s7) (r2.1.trans t2) (r2.2.1.trans t3) (r2.2.2.2.1.trans t4) (sub g NE_nil (Nat.le_refl _) (by omega) (Nat.le_refl _) (by omega) (by omega) (by omega) hL (cgS_sub cs (by omega) (by omega)) (cgT_sub ct (by omega) (by omega)) hni) (fun S1 T1 L1 kc km => sub g2 n1 (by omega) (by omega) (by omega) (by omega) (by omega) (by omega) L1 (cg_c (cgS_sub cs (by omega) (by omega)) kc (Nat.le_refl _)) (cg_m (cgT_sub ct (by omega) (by omega)) km (Nat.le_refl _)) (fun v p y => nid_m (hni v p y) km))
    · obtain ⟨i1, j1, p2, i2, j2, p3, i3, j3, a, g, g2, g3, e1, e2, s4, s6, t2, t4⟩ := h
      subst e1 e2
      have bd := gE_bnd K _ _ _ _ _ g
      have bd2 := gE_bnd K _ _ _ _ _ g2
      have bd3 := gE_bnd K _ _ _ _ _ g3
      have n1 := (gE_ne K _ _ _ _ _ g (by omega)).1
      have n2 := NE_app n1 (gE_ne K _ _ _ _ _ g2 (by omega)).1
      have n3 := HB_at hB (NE_app n2 (gE_ne K _ _ _ _ _ g3 (by omega)).1) (by omega)
      have q2 := cs i3 (by omega) (by omega)
      have r2 := ct j3 (by omega) (by omega)
      exact ex_sel hg (by omega) (by omega) (by omega) (by omega) (by omega) (by omega) (by omega) (by omega) (by omega) (by omega) (q2.1.trans s4) (q2.2.2.1.trans s6) (r2.1.trans t2) (r2.2.2.2.1.trans t4) (sub g NE_nil (Nat.le_refl _) (by omega) (Nat.le_refl _) (by omega) (by omega) (by omega) hL (cgS_sub cs (by omega) (by omega)) (cgT_sub ct (by omega) (by omega)) hni) (fun S1 T1 L1 kc km => sub g2 n1 (by omega) (by omega) (by omega) (by omega) (by omega) (by omega) L1 (cg_c (cgS_sub cs (by omega) (by omega)) kc (Nat.le_refl _)) (cg_m (cgT_sub ct (by omega) (by omega)) km (Nat.le_refl _)) (fun v p y => nid_m (hni v p y) km)) (fun S1 T1 L1 kc km => sub g3 n2 (by omega) (by omega) (by omega) (by omega) (by omega) (by omega) L1 (cg_c (cgS_sub cs (by omega) (by omega)) kc (Nat.le_refl _)) (cg_m (cgT_sub ct (by omega) (by omega)) km (Nat.le_refl _)) (fun v p y => nid_m (hni v p y) km))
    · obtain ⟨p1, j1, g, e2, s1, t1, t2, t3⟩ := h
      subst e2
      have bd := gE_bnd K _ _ _ _ _ g
      have r1 := ct j1 (by omega) (by omega)
      exact ex_bra hg hL (by omega) (by omega) (by omega) (by omega) (by omega) (by omega) ((cs i (by omega) (by omega)).1.trans s1) ((ct j (by omega) (by omega)).1.trans t1) (r1.1.trans t2) (r1.2.2.2.1.trans t3) (sub g (NE_1 (e1 := 0) (e2 := 0) s1 (by decide) (by decide) (by decide)) (by omega) (by omega) (by omega) (by omega) (by omega) (by omega) hL (cgS_sub cs (by omega) (by omega)) (cgT_sub ct (by omega) (by omega)) hni)
end LAll
