/-! BUILD on both sides: for -/
def VSs (w nv vw : Nat) (vb vq vt : Nat → Nat) : Prop := nv ≤ vw ∧ vw ≤ 256 ∧ (∀ t, t < nv → 1 ≤ vq t ∧ vb t + vq t ≤ vw ∧ (vt t = 1 ∨ vt t = w)) ∧ ∀ t, t + 1 < nv → vb t + vq t ≤ vb (t + 1)
/-- the visible for's -/
def K2 (S : zS) (Av : Nat → Nat → Prop) : Nat → Nat → Prop := fun e a => Av e a ∧ S.1 11 e = 2
def LPx (e jl v1 v2 nv : Nat) (A B : zS) : Prop := A.2 48 e = lN v1 ∧ A.2 49 e = lN v2 ∧ B.2 141 jl = lN v1 ∧ B.2 142 jl = lN v2 ∧ B.1 143 jl = nI nv
/-- TRz, with f of room for a FAULT -/
def TRzf (l : Launch) (Gr : zG) (n w d : Nat) (Z Z' : Nat → zS → zS → Prop) (Fr : zS → zS → zS → zS → Prop) (f c : Int) (j j' st : Nat) (A : zS) : Prop := ∃ k A', CGo l Gr n w d k A A' ∧ KBc A A' ∧ ((∃ st' : Nat, st ≤ st' ∧ (k : Int) + c ≤ 300 * ((st' : Int) - st) ∧ ∀ B, Z st A B → ∃ B', MGo l Gr n w d B j B' j' ∧ Z' st' A' B' ∧ Fr A A' B B') ∨ ((k : Int) ≤ 300 * (100001 - (st : Int)) + f ∧ ∀ B, Z st A B → ∃ B' j'', MGo l Gr n w d B j B' j'' ∧ KBm B B' ∧ FBT A' B'))
section YFO
variable {l : Launch} {Cx : Nat → Prop} {Gr : zG} {n w : Nat} {d : Nat} {Av Av' A3v : Nat → Nat → Prop} {S T A A' A1 A2 B B' B0 B1 B2 : zS} {Z Z1 Z2 : Nat → zS → zS → Prop} {Fr : zS → zS → zS → zS → Prop} {c c1 c2 : Int} {i i' hc hr st r i1 i2 i3 j j' j1 j2 j3 N M z z2 e vw nv nv' u sd no p lo hi k a b y m q D v1 v2 vw' cf rf cd hb hrb ex : Nat} {vb vq vt vb' vq' vt' bo : Nat → Nat} {os : List Nat}
theorem TRz_f (h : TRz l Gr n w d Z Z1 Fr c j j1 st A) : TRzf l Gr n w d Z Z1 Fr 300 c j j1 st A := h
theorem TRzf_seq {f f1 f2 : Int} (h0 : Z st A B0) (h1 : TRzf l Gr n w d Z Z1 Fr f1 c1 j j1 st A) (hf1 : f1 ≤ f) (hf2 : f2 - c1 ≤ f) (hF : ∀ A A1 A2 B B1 B2, Fr A A1 B B1 → Fr A1 A2 B1 B2 → Fr A A2 B B2) (hK : ∀ A A1 B B1, Fr A A1 B B1 → KBm B B1) (h2 : ∀ A1 B1 st1, st ≤ st1 → Z1 st1 A1 B1 → TRzf l Gr n w d Z1 Z2 Fr f2 c2 j1 j2 st1 A1) : TRzf l Gr n w d Z Z2 Fr f (c1 + c2) j j2 st A := by
  obtain ⟨k1, A1, g1, kb1, ⟨st1, s1, b1, m1⟩ | ⟨b1, m1⟩⟩ := h1
  · obtain ⟨B01, -, z01, -⟩ := m1 B0 h0
    obtain ⟨k2, A2, g2, kb2, ⟨st2, s2, b2, m2⟩ | ⟨b2, m2⟩⟩ := h2 A1 B01 st1 s1 z01
    · refine ⟨k1 + k2, A2, CGo_tr g1 g2, KBc_tr kb1 kb2, Or.inl ⟨st2, by omega, by omega, fun B hB => ?_⟩⟩
      obtain ⟨B1, n1, z1, f1⟩ := m1 B hB
      obtain ⟨B2, n2, z2, f2⟩ := m2 B1 z1
      exact ⟨B2, MGo_tr n1 n2, z2, hF _ _ _ _ _ _ f1 f2⟩
    · refine ⟨k1 + k2, A2, CGo_tr g1 g2, KBc_tr kb1 kb2, Or.inr ⟨by omega, fun B hB => ?_⟩⟩
      obtain ⟨B1, n1, z1, f1⟩ := m1 B hB
      obtain ⟨B2, j3, n2, kb, fb⟩ := m2 B1 z1
      exact ⟨B2, j3, MGo_tr n1 n2, KBm_tr (hK _ _ _ _ f1) kb, fb⟩
  · exact ⟨k1, A1, g1, kb1, Or.inr ⟨by omega, m1⟩⟩
theorem TRzf_le {f f1 : Int} (h : TRzf l Gr n w d Z Z1 Fr f1 c1 j j1 st A) (hc : c2 ≤ c1) (hf : f1 ≤ f) : TRzf l Gr n w d Z Z1 Fr f c2 j j1 st A := by
  obtain ⟨k1, A1, g1, kb1, ⟨st1, s1, b1, m1⟩ | ⟨b1, m1⟩⟩ := h
  · exact ⟨k1, A1, g1, kb1, Or.inl ⟨st1, s1, by omega, m1⟩⟩
  · exact ⟨k1, A1, g1, kb1, Or.inr ⟨by omega, m1⟩⟩
theorem YE_s (h : YE w Av S vw nv vb vq vt u sd no bo A B) : VSs w nv vw vb vq vt := ⟨h.2.2.1.2.1, h.2.2.1.2.2.1, fun t ht => ⟨(h.2.2.1.2.2.2.1 t ht).2.2.2.1, (h.2.2.1.2.2.2.1 t ht).2.2.2.2.1, (h.2.2.1.2.2.2.1 t ht).2.2.2.2.2⟩, h.2.2.1.2.2.2.2⟩
theorem TRz_and {E : zS → zS → Prop} (h : TRz l Gr n w d Z Z1 Fr c j j1 st A) (hE : ∀ A A' B B', E A B → Fr A A' B B' → E A' B') : TRz l Gr n w d (fun st A B => Z st A B ∧ E A B) (fun st A B => Z1 st A B ∧ E A B) Fr c j j1 st A := by
  obtain ⟨k1, A1, g1, kb1, ⟨st1, s1, b1, m1⟩ | ⟨b1, m1⟩⟩ := h
  · refine ⟨k1, A1, g1, kb1, Or.inl ⟨st1, s1, b1, fun B hB => ?_⟩⟩
    obtain ⟨B1, n1, z1, f1⟩ := m1 B hB.1
    exact ⟨B1, n1, ⟨z1, hE _ _ _ _ hB.2 f1⟩, f1⟩
  · exact ⟨k1, A1, g1, kb1, Or.inr ⟨b1, fun B hB => m1 B hB.1⟩⟩
/-- 18 and 41: nothing -/
theorem TRu_nop2 (hg : ip_gk (lg_tbl, vwCl, Gr)) (ho : ip_old (lg_tbl, vwCl, Gr)) (hw1 : 1 ≤ w) (hw : w ≤ 32) (cx : CTX S T N M) (h0 : XS w Av S T cf rf cd hb hrb i hc hr st A B0) (s4 : S.1 4 i1 = 18) (t1 : T.1 78 j1 = 41) (hi : i1 < N) (hj : j1 < M) (hhc : hc + os.length + 1 ≤ 9682) (h : TRu l Gr n w d Av S T cf rf cd hb hrb os (ex + 1) i i1 j j1 hc hr st A) : TRu l Gr n w d Av S T cf rf cd hb hrb os ex i (i1 + 1) j (j1 + 1) hc hr st A := by
  have hN := cx.2.1
  obtain ⟨k1, A1, g1, kb1, ⟨st1, s1, b1, m1⟩ | ⟨b1, m1⟩⟩ := h
  · obtain ⟨B01, -, -, -, -, x01, o01⟩ := m1 B0 h0
    have b1 : k1 + 69 * os.length + (ex + 1) ≤ 120 * (st1 - st) := b1
    have run : zMv l Gr (zc n w) 168 M_Builder_buildStatement (d + 11) [.ref 77, .int (nI i1), .int (nI 18)] (zi A1 45 16 (nI (i1 + 1))) (fun X => X = zi A1 45 16 (nI (i1 + 1))) := st_nk (d := d + 4) (by omega) (by omega) hg
    have g := ck_1 (z := 18) (e := 0) hg ho hw cx x01 hi s4 (by omega) rfl (by omega) hhc (kg_S (l := l) (n := n) (d := d) hg (by omega) run)
    have c8 : (zi A1 45 16 (nI (i1 + 1))).1 45 8 = nI ((hc + os.length) * w) := by rw [zi_k (by decide)]; exact x01.1.2.2.2.1
    have c18 : (zi A1 45 16 (nI (i1 + 1))).1 45 18 = nI st1 := by rw [zi_k (by decide)]; exact x01.1.2.2.2.2.2.1
    have c7 : (zi A1 45 16 (nI (i1 + 1))).1 24 7 = 0 := by rw [zi_c (by decide)]; exact x01.1.2.2.1
    have fA : FK (PXc w (hc + os.length) cd) A1 (zi A1 45 16 (nI (i1 + 1))) := FK_zi (P := PXc w (hc + os.length) cd) (Or.inl ⟨rfl, Or.inr (Or.inl rfl)⟩)
    rw [kEnd_g c7 c18 x01.2.2.2.2.1] at g
    refine ⟨k1 + 1, _, CGo_tr g1 g, KBc_tr kb1 (KBc_F fA), Or.inl ⟨st1, s1, by show k1 + 1 + 69 * os.length + ex ≤ _; omega, fun B hB => ?_⟩⟩
    obtain ⟨B1, n1, f1, e1, v1, x1, o1⟩ := m1 B hB
    have b78 : B1.1 78 j1 = nI 41 := (x1.2.1.1.2.1 78 j1 (by omega)).trans t1
    refine ⟨B1, MGo_tr n1 (mg_s (z := 41) hg hj cx.2.2.2 (x1.2.1.1.1.trans cx.2.2.1) (XS_7 x1) b78 (by omega) (by omega) (ms_nn (d := d + 5) (by have := cx.2.2.2; omega) b78 (by omega))), FX_tr f1 fA (by omega), e1, v1, XS_nop hw1 hw x1, OAs_k hw1 hw o1 fA (FM_rfl (P := PXm (hr + os.length) cd)) (fun _ h => h)⟩
  · exact ⟨k1, A1, g1, kb1, Or.inr ⟨b1, m1⟩⟩
/-- back to what is visible outside -/
theorem YE_out {e jl : Nat} (h : YE w A3v S vw' nv' vb' vq' vt' u sd no bo A B) (hs : VSs w nv vw vb vq vt) (hv : vw ≤ vw') (hlk : VLk w nv vb vq vt Av S) (hn : nv ≤ nv') (hx : ∀ t, t < nv → vb' t = vb t ∧ vq' t = vq t ∧ vt' t = vt t) (fA : ∀ c k, (c = 24 ∧ k = 11) ∨ c = 31 ∨ c = 32 ∨ c = 58 → A'.1 c k = A.1 c k) (gB : ∀ c k, (c = 73 ∧ (k = 69 ∨ k = 94 ∨ k = 101)) ∨ c = 120 ∨ c = 121 ∨ (133 ≤ c ∧ c ≤ 135) → B'.1 c k = B.1 c k) (g97 : B'.1 73 97 = nI nv) (v : VM B B') {vwo : Nat} (hvo : vw ≤ vwo) (hvo2 : vwo ≤ 256) : YE w Av S vwo nv vb vq vt u sd no bo A' B' := by
  obtain ⟨y1, y2, ⟨y3, y4, y5, y6, y7⟩, y8, y9, o1, o2, o3, o4, o5⟩ := h
  refine ⟨(gB 73 94 (by omega)).trans y1, (gB 73 101 (by omega)).trans y2, ⟨g97, by have := hs.1; omega, hvo2, fun t ht => ?_, hs.2.2.2⟩, hlk, fun k hk => by rw [fA 58 k (by omega)]; exact y9 k hk, (fA 24 11 (by omega)).trans o1, (gB 73 69 (by omega)).trans o2, o3, fun t ht => by rw [fA 31 t (by omega)]; exact o4 t ht, fun t ht => ?_⟩
  · obtain ⟨w1, w2, w3, -⟩ := y6 t (by omega)
    obtain ⟨x1, x2, x3⟩ := hx t ht
    obtain ⟨z1, z2, z3⟩ := hs.2.2.1 t ht
    rw [x1] at w1
    rw [x2] at w2
    rw [x3] at w3
    exact ⟨(gB 133 t (by omega)).trans w1, (gB 134 t (by omega)).trans w2, (gB 135 t (by omega)).trans w3, z1, by omega, z3⟩
  · obtain ⟨m, q1, q2, q3, q4⟩ := o5 t ht
    refine ⟨m, q1, (gB 120 t (by omega)).trans q2, q3, fun x hx => ?_⟩
    rw [fA 32 _ (by omega), gB 121 _ (by omega)]
    exact ⟨(q4 x hx).1, v _ (q4 x hx).2⟩
/-- the turns that are left -/
theorem for_loop (hg : ip_gk (lg_tbl, vwCl, Gr)) (ho : ip_old (lg_tbl, vwCl, Gr)) (hw1 : 1 ≤ w) (hw : w ≤ 32) (cx : CTX S T N M) (he : e < 800) (s11 : S.1 11 e = 2) (hf : ∀ a, ¬ Av e a) (hAJ : ∀ e a, Av e a → S.1 11 e = 2 → a < j2 + 1) (hsub : ∀ e' a', adA Av e (j2 + 1) e' a' → A3v e' a') (hs : VSs w nv vw vb vq vt) (hlk : VLk w nv vb vq vt (adA Av e (j2 + 1)) S) (hlk0 : VLk w nv vb vq vt Av S) (hn : nv ≤ nv') (hx : ∀ t, t < nv → vb' t = vb t ∧ vq' t = vq t ∧ vt' t = vt t) (hvv : vw ≤ vw') (hv2 : vw' ≤ 256) (u4 : S.1 4 i3 = 20) (u5 : S.1 5 i3 = nI e) (u7 : S.1 7 i3 = nI (i2 + 2)) (t1 : T.1 78 j3 = 40) (t79 : T.1 79 j3 = nI (j2 + 1)) (hi' : i3 < N) (hj : j3 < M) (hj2 : j2 + 1 < 12000) (hhc : hc + 1 ≤ 9682) (hv : v2 < 2 ^ 32)
    (body : ∀ A B0 st, (YB w (adA Av e (j2 + 1)) S T (i2 + 2) hc st A B0 ∧ YE w (adA Av e (j2 + 1)) S vw nv vb vq vt u (sd + 1) no bo A B0) → TRz l Gr n w d (fun st A B => YB w (adA Av e (j2 + 1)) S T (i2 + 2) hc st A B ∧ YE w (adA Av e (j2 + 1)) S vw nv vb vq vt u (sd + 1) no bo A B) (fun st A B => YB w A3v S T i3 hc st A B ∧ YE w A3v S vw' nv' vb' vq' vt' u (sd + 1) no bo A B) (SF w Cx (K2 S (adA Av e (j2 + 1))) hc (sd + 1) u nv vw lo hi) 0 (j2 + 2) j3 st A) : ∀ (m v1 : Nat), v1 + m = v2 → ∀ A B0 st, ((YB w (adA Av e (j2 + 1)) S T (i2 + 2) hc st A B0 ∧ YE w (adA Av e (j2 + 1)) S vw nv vb vq vt u (sd + 1) no bo A B0) ∧ LPx e (j2 + 1) v1 v2 nv A B0) → TRzf l Gr n w d (fun st A B => (YB w (adA Av e (j2 + 1)) S T (i2 + 2) hc st A B ∧ YE w (adA Av e (j2 + 1)) S vw nv vb vq vt u (sd + 1) no bo A B) ∧ LPx e (j2 + 1) v1 v2 nv A B) (fun st A B => YB w Av S T (i3 + 1) hc st A B ∧ YE w Av S vw' nv vb vq vt u (sd + 1) no bo A B) (SF w Cx (K2 S Av) hc (sd + 1) u nv vw lo hi) (300 + ((m : Int) + 1)) (-((m : Int) + 1)) (j2 + 2) (j3 + 1) st A := by
  have hN := cx.2.1
  have hM := cx.2.2.2
  have smo : ∀ (A A' B B' : zS), SF w Cx (K2 S (adA Av e (j2 + 1))) hc (sd + 1) u nv vw lo hi A A' B B' → SF w Cx (K2 S Av) hc (sd + 1) u nv vw lo hi A A' B B' := fun A A' B B' h => SF_mo h (fun e' a' q => ⟨Or.inl q.1, q.2⟩) (Nat.le_refl _) (Nat.le_refl _) (Nat.le_refl _) (Nat.le_refl _) (Nat.le_refl _) (Nat.le_refl _) (Nat.le_refl _)
  intro m
  induction m with
  | zero =>
    intro v1 hm A B0 st h0
    have s1 := TRz_mo (TRz_and (E := LPx e (j2 + 1) v1 v2 nv) (body A B0 st h0.1) (fun A A' B B' q f => by
      have fe := f.1.2.2 e (j2 + 1) ⟨Or.inr ⟨rfl, rfl⟩, s11⟩
      have fm := f.2.1.2.2.2.2 e (j2 + 1) ⟨Or.inr ⟨rfl, rfl⟩, s11⟩
      exact ⟨fe.1.trans q.1, fe.2.trans q.2.1, fm.1.trans q.2.2.1, fm.2.1.trans q.2.2.2.1, fm.2.2.trans q.2.2.2.2⟩)) smo
    refine TRzf_le (TRzf_seq (f := 300) (f1 := 300) (f2 := 0) (c2 := -1) (j2 := j3 + 1) h0 (TRz_f s1) (by omega) (by omega) (fun _ _ _ _ _ _ => SF_tr) (fun _ _ _ _ h => h.2.2.2) (fun A1 B1 st1 _ z1 => ?_)) (by omega) (by omega)
    obtain ⟨⟨x1, y1⟩, lp⟩ := z1
    have cA : ∀ c u, (4 ≤ c ∧ c ≤ 7) → (zi A1 45 16 (nI (i3 + 1))).1 c u = S.1 c u := fun c u h => by rw [zi_c (by omega)]; exact x1.1.1.2 c u (by omega)
    obtain ⟨A2, q2, run⟩ := zMv_det (w_st20 (l := l) (n := n) (w := w) (d := d + 4) (A := zi A1 45 16 (nI (i3 + 1))) (j := i3) (e := e) (ie := i2 + 2) (v1 := v1) (v2 := v2) hg (by omega) he ((cA 5 i3 (by omega)).trans u5) ((cA 7 i3 (by omega)).trans u7) lp.1 lp.2.1 (by omega) (by omega))
    have e2 := q2.2 (by omega)
    have g := cy_1 (z := 20) (e := 0) hg ho hw cx x1 hi' u4 (by omega) rfl (by omega) hhc (kg_S (l := l) (n := n) (d := d) hg (by omega) run)
    rw [e2, kEnd_g (st := st1) (by rw [zi_c (by decide)]; exact x1.1.2.2.1) (by rw [zi_k (by decide)]; exact x1.1.2.2.2.2.2.1) x1.2.2.2.1] at g
    have f2 : ∀ c k, ¬ (c = 45 ∧ k = 16) → (zi A1 45 16 (nI (i3 + 1))).1 c k = A1.1 c k := fun c k q => by rw [zi_get, if_neg q]
    refine ⟨1, _, g, ⟨fun c k q1 q2 q3 => f2 c k (by omega), fun _ _ _ => rfl⟩, Or.inl ⟨st1, Nat.le_refl _, by omega, fun B hB => ?_⟩⟩
    obtain ⟨⟨hB, yB⟩, lB⟩ := hB
    have mT : ∀ c k, (78 ≤ c ∧ c ≤ 81) ∨ c = 89 ∨ (102 ≤ c ∧ c ≤ 107) ∨ c = 117 → B.1 c k = T.1 c k := hB.2.1.1.2.1
    obtain ⟨xv, B2, qb, r2⟩ := zMi_det (ms_40 (l := l) (Gr := Gr) (n := n) (w := w) (d := d + 5) (B := B) (j := j3) (jl := j2 + 1) (nv := nv) (v1 := v1) (v2 := v2) (by omega) hj2 ((mT 78 j3 (by omega)).trans t1) ((mT 79 j3 (by omega)).trans t79) lB.2.2.2.2 lB.2.2.1 lB.2.2.2.1 (by omega) (by omega))
    obtain ⟨ev, eB⟩ := qb.2 (by omega)
    subst ev eB
    have n1 : MGo l Gr n w d B j3 (zi B 73 97 (nI nv)) (j3 + 1) := mg_s (z := 40) hg hj hM (hB.2.1.1.1.trans cx.2.2.1) (YB_7 hB) ((mT 78 j3 (by omega)).trans t1) (by omega) (by omega) r2
    have g2 : ∀ c k, ¬ (c = 73 ∧ k = 97) → (zi B 73 97 (nI nv)).1 c k = B.1 c k := fun c k q => by rw [zi_get, if_neg q]
    have El : MEc B (zi B 73 97 (nI nv)) := ⟨fun k q => g2 73 k (by omega), fun c k q => g2 c k (by omega)⟩
    have vm : VM B (zi B 73 97 (nI nv)) := fun x hx => VC_ME El hx
    have km : KBm B (zi B 73 97 (nI nv)) := ⟨fun c k q1 q2 q3 => g2 c k (by omega), fun _ _ _ => rfl⟩
    refine ⟨_, n1, ⟨⟨⟨⟨(f2 3 4 (by omega)).trans hB.1.1.1, fun c k q => (f2 c k (by omega)).trans (hB.1.1.2 c k q)⟩, (f2 3 5 (by omega)).trans hB.1.2.1, (f2 24 7 (by omega)).trans hB.1.2.2.1, (f2 45 8 (by omega)).trans hB.1.2.2.2.1, zi_v, (f2 45 18 (by omega)).trans hB.1.2.2.2.2.2.1, (f2 45 13 (by omega)).trans hB.1.2.2.2.2.2.2.1, (f2 45 12 (by omega)).trans hB.1.2.2.2.2.2.2.2⟩, ⟨MCo_K hB.2.1.1 km, (g2 73 85 (by omega)).trans hB.2.1.2.1, (g2 73 70 (by omega)).trans hB.2.1.2.2.1, (g2 73 110 (by omega)).trans hB.2.1.2.2.2⟩, RL_E hB.2.2.1 KEc_16 El, hB.2.2.2.1, ?_⟩, YE_out (e := e) (jl := j2 + 1) yB hs hvv hlk0 hn hx (fun c k q => f2 c k (by omega)) (fun c k q => g2 c k (by omega)) zi_v vm hvv hv2⟩, ?_⟩
    · intro e' a' r' z' h1 h2 h3 h4 h5
      obtain ⟨k0, k1, k2, k3⟩ := hB.2.2.2.2 e' a' r' z' (hsub e' a' (Or.inl h1)) h2 h3 h4 h5
      refine ⟨fun y => ⟨(k0 y).1, fun t ht => ?_⟩, fun y => ⟨(k1 y).1, fun t x ht hx => ?_⟩, k2, fun y => absurd (k3 y).2.1 (by omega)⟩
      · rw [f2 20 _ (by omega), g2 117 _ (by omega)]
        exact ⟨((k0 y).2 t ht).1, fun x hx => vm _ (((k0 y).2 t ht).2 x hx)⟩
      · rw [f2 58 _ (by omega), g2 132 _ (by omega)]
        exact ⟨((k1 y).2 t x ht hx).1, vm _ ((k1 y).2 t x ht hx).2⟩
    · exact ⟨⟨fun k _ => f2 57 k (by omega), fun k _ _ => f2 58 k (by omega), fun _ _ _ => ⟨rfl, rfl⟩⟩, ⟨fun t _ => g2 131 t (by omega), fun t c _ q2 q3 => g2 c t (by omega), fun k c _ q2 => g2 c k (by omega), fun t c _ q2 q3 => g2 c t (by omega), fun e a _ => ⟨rfl, rfl, g2 143 a (by omega)⟩⟩, vm, km⟩
  | succ m ih =>
    intro v1 hm A B0 st h0
    have s1 := TRz_mo (TRz_and (E := LPx e (j2 + 1) v1 v2 nv) (body A B0 st h0.1) (fun A A' B B' q f => by
      have fe := f.1.2.2 e (j2 + 1) ⟨Or.inr ⟨rfl, rfl⟩, s11⟩
      have fm := f.2.1.2.2.2.2 e (j2 + 1) ⟨Or.inr ⟨rfl, rfl⟩, s11⟩
      exact ⟨fe.1.trans q.1, fe.2.trans q.2.1, fm.1.trans q.2.2.1, fm.2.1.trans q.2.2.2.1, fm.2.2.trans q.2.2.2.2⟩)) smo
    have turn : ∀ A1 B1 st1, st ≤ st1 → ((YB w A3v S T i3 hc st1 A1 B1 ∧ YE w A3v S vw' nv' vb' vq' vt' u (sd + 1) no bo A1 B1) ∧ LPx e (j2 + 1) v1 v2 nv A1 B1) → ∃ A2, CGo l Gr n w d 1 A1 A2 ∧ KBc A1 A2 ∧ ∀ B, ((YB w A3v S T i3 hc st1 A1 B ∧ YE w A3v S vw' nv' vb' vq' vt' u (sd + 1) no bo A1 B) ∧ LPx e (j2 + 1) v1 v2 nv A1 B) → ∃ B2, MGo l Gr n w d B j3 B2 (j2 + 2) ∧ ((YB w (adA Av e (j2 + 1)) S T (i2 + 2) hc st1 A2 B2 ∧ YE w (adA Av e (j2 + 1)) S vw nv vb vq vt u (sd + 1) no bo A2 B2) ∧ LPx e (j2 + 1) (v1 + 1) v2 nv A2 B2) ∧ SF w Cx (K2 S Av) hc (sd + 1) u nv vw lo hi A1 A2 B B2 := fun A1 B1 st1 _ z1 => by
      obtain ⟨⟨x1, y1⟩, lp⟩ := z1
      have cA : ∀ c u, (4 ≤ c ∧ c ≤ 7) → (zi A1 45 16 (nI (i3 + 1))).1 c u = S.1 c u := fun c u h => by rw [zi_c (by omega)]; exact x1.1.1.2 c u (by omega)
      obtain ⟨A2, q2, run⟩ := zMv_det (w_st20 (l := l) (n := n) (w := w) (d := d + 4) (A := zi A1 45 16 (nI (i3 + 1))) (j := i3) (e := e) (ie := i2 + 2) (v1 := v1) (v2 := v2) hg (by omega) he ((cA 5 i3 (by omega)).trans u5) ((cA 7 i3 (by omega)).trans u7) lp.1 lp.2.1 (by omega) (by omega))
      have e2 := q2.1 (by omega)
      have g := cy_1 (z := 20) (e := 0) hg ho hw cx x1 hi' u4 (by omega) rfl (by omega) hhc (kg_S (l := l) (n := n) (d := d) hg (by omega) run)
      have f2 : ∀ c k, ¬ (c = 45 ∧ k = 16) → A2.1 c k = A1.1 c k := fun c k q => by
        rw [e2, zi_get, if_neg q]
        show (zi A1 45 16 (nI (i3 + 1))).1 c k = _
        rw [zi_get, if_neg q]
      have c16 : A2.1 45 16 = nI (i2 + 2) := by rw [e2]; exact zi_v
      have l48 : A2.2 48 e = lN (v1 + 1) := by
        rw [e2]
        show (zj (zi A1 45 16 (nI (i3 + 1))) 48 e (lN (v1 + 1))).2 48 e = _
        exact zj_v
      have lo48 : ∀ c k, ¬ (c = 48 ∧ k = e) → A2.2 c k = A1.2 c k := fun c k q => by
        rw [e2]
        show (zj (zi A1 45 16 (nI (i3 + 1))) 48 e (lN (v1 + 1))).2 c k = _
        rw [zj_get, if_neg q]
        rfl
      rw [kEnd_g (A := A2) (st := st1) ((f2 24 7 (by omega)).trans x1.1.2.2.1) ((f2 45 18 (by omega)).trans x1.1.2.2.2.2.2.1) x1.2.2.2.1] at g
      refine ⟨A2, g, ⟨fun c k q1 q2 q3 => f2 c k (by omega), fun c k q => lo48 c k (by omega)⟩, fun B hB => ?_⟩
      obtain ⟨⟨hB, yB⟩, lB⟩ := hB
      have mT : ∀ c k, (78 ≤ c ∧ c ≤ 81) ∨ c = 89 ∨ (102 ≤ c ∧ c ≤ 107) ∨ c = 117 → B.1 c k = T.1 c k := hB.2.1.1.2.1
      obtain ⟨xv, B2, qb, r2⟩ := zMi_det (ms_40 (l := l) (Gr := Gr) (n := n) (w := w) (d := d + 5) (B := B) (j := j3) (jl := j2 + 1) (nv := nv) (v1 := v1) (v2 := v2) (by omega) hj2 ((mT 78 j3 (by omega)).trans t1) ((mT 79 j3 (by omega)).trans t79) lB.2.2.2.2 lB.2.2.1 lB.2.2.2.1 (by omega) (by omega))
      obtain ⟨ev, eB⟩ := qb.1 (by omega)
      subst ev
      have n1 : MGo l Gr n w d B j3 B2 (j2 + 2) := mg_s (z := 40) hg hj hM (hB.2.1.1.1.trans cx.2.2.1) (YB_7 hB) ((mT 78 j3 (by omega)).trans t1) (by omega) (by omega) r2
      have g2 : ∀ c k, ¬ (c = 73 ∧ k = 97) → B2.1 c k = B.1 c k := fun c k q => by
        rw [eB]
        show (zi B 73 97 (nI nv)).1 c k = _
        rw [zi_get, if_neg q]
      have b97 : B2.1 73 97 = nI nv := by
        rw [eB]
        show (zi B 73 97 (nI nv)).1 73 97 = _
        exact zi_v
      have l141 : B2.2 141 (j2 + 1) = lN (v1 + 1) := by rw [eB]; exact zj_v
      have lo141 : ∀ c k, ¬ (c = 141 ∧ k = j2 + 1) → B2.2 c k = B.2 c k := fun c k q => by
        rw [eB, zj_get, if_neg q]
        rfl
      have K : KEc A1 A2 := ⟨fun k q1 q2 => f2 24 k (by omega), fun c k q1 q2 => f2 c k (by omega)⟩
      have El : MEc B B2 := ⟨fun k q => g2 73 k (by omega), fun c k q => g2 c k (by omega)⟩
      have vm : VM B B2 := fun x hx => VC_ME El hx
      have km : KBm B B2 := ⟨fun c k q1 q2 q3 => g2 c k (by omega), fun c k q => lo141 c k (by omega)⟩
      refine ⟨B2, n1, ⟨⟨⟨⟨⟨(f2 3 4 (by omega)).trans hB.1.1.1, fun c k q => (f2 c k (by omega)).trans (hB.1.1.2 c k q)⟩, (f2 3 5 (by omega)).trans hB.1.2.1, (f2 24 7 (by omega)).trans hB.1.2.2.1, (f2 45 8 (by omega)).trans hB.1.2.2.2.1, c16, (f2 45 18 (by omega)).trans hB.1.2.2.2.2.2.1, (f2 45 13 (by omega)).trans hB.1.2.2.2.2.2.2.1, (f2 45 12 (by omega)).trans hB.1.2.2.2.2.2.2.2⟩, ⟨MCo_K hB.2.1.1 km, (g2 73 85 (by omega)).trans hB.2.1.2.1, (g2 73 70 (by omega)).trans hB.2.1.2.2.1, (g2 73 110 (by omega)).trans hB.2.1.2.2.2⟩, RL_E hB.2.2.1 K El, hB.2.2.2.1, ?_⟩, YE_out (e := e) (jl := j2 + 1) yB hs hvv hlk hn hx (fun c k q => f2 c k (by omega)) (fun c k q => g2 c k (by omega)) b97 vm (Nat.le_refl _) hs.2.1⟩, l48, (lo48 49 e (by omega)).trans lB.2.1, l141, (lo141 142 _ (by omega)).trans lB.2.2.2.1, (g2 143 _ (by omega)).trans lB.2.2.2.2⟩, ?_⟩
      · intro e' a' r' z' h1 h2 h3 h4 h5
        obtain ⟨k0, k1, k2, k3⟩ := hB.2.2.2.2 e' a' r' z' (hsub e' a' h1) h2 h3 h4 h5
        refine ⟨fun y => ⟨(k0 y).1, fun t ht => ?_⟩, fun y => ⟨(k1 y).1, fun t x ht hx => ?_⟩, fun y => ?_, fun y => absurd (k3 y).2.1 (by omega)⟩
        · rw [f2 20 _ (by omega), g2 117 _ (by omega)]
          exact ⟨((k0 y).2 t ht).1, fun x hx => vm _ (((k0 y).2 t ht).2 x hx)⟩
        · rw [f2 58 _ (by omega), g2 132 _ (by omega)]
          exact ⟨((k1 y).2 t x ht hx).1, vm _ ((k1 y).2 t x ht hx).2⟩
        · rcases h1 with h1 | ⟨h1, h1'⟩
          · have ne : e' ≠ e := fun q => by rw [q] at h1; exact hf a' h1
            have na := hAJ e' a' h1 y
            rw [lo48 48 e' (by omega), lo141 141 a' (by omega)]
            exact k2 y
          · rw [h1, h1', l48, l141]
            exact ⟨v1 + 1, by omega, rfl, rfl⟩
      · refine ⟨⟨fun k _ => f2 57 k (by omega), fun k _ _ => f2 58 k (by omega), fun e' a' q => ?_⟩, ⟨fun t _ => g2 131 t (by omega), fun t c _ q2 q3 => g2 c t (by omega), fun k c _ q2 => g2 c k (by omega), fun t c _ q2 q3 => g2 c t (by omega), fun e' a' q => ?_⟩, vm, km⟩
        · have ne : e' ≠ e := fun q2 => by rw [q2] at q; exact hf a' q.1
          exact ⟨lo48 48 e' (by omega), lo48 49 e' (by omega)⟩
        · have na := hAJ e' a' q.1 q.2
          exact ⟨lo141 141 a' (by omega), lo141 142 a' (by omega), g2 143 a' (by omega)⟩
    have s2 : TRzf l Gr n w d _ (fun st A B => (YB w (adA Av e (j2 + 1)) S T (i2 + 2) hc st A B ∧ YE w (adA Av e (j2 + 1)) S vw nv vb vq vt u (sd + 1) no bo A B) ∧ LPx e (j2 + 1) (v1 + 1) v2 nv A B) (SF w Cx (K2 S Av) hc (sd + 1) u nv vw lo hi) 300 (0 + -1) (j2 + 2) (j2 + 2) st A := TRzf_seq (f1 := 300) (f2 := 0) h0 (TRz_f s1) (by omega) (by omega) (fun _ _ _ _ _ _ => SF_tr) (fun _ _ _ _ h => h.2.2.2) (fun A1 B1 st1 hst z1 => by
      obtain ⟨A2, g, kb, mm⟩ := turn A1 B1 st1 hst z1
      exact ⟨1, A2, g, kb, Or.inl ⟨st1, Nat.le_refl _, by omega, fun B hB => mm B hB⟩⟩)
    exact TRzf_le (TRzf_seq (f := 300 + ((m : Int) + 1) + 1) h0 s2 (by omega) (by omega) (fun _ _ _ _ _ _ => SF_tr) (fun _ _ _ _ h => h.2.2.2) (fun A1 B1 st1 _ z1 => ih (v1 + 1) (by omega) A1 B1 st1 z1)) (by omega) (by omega)
end YFO
