/-! BUILD on both sides: the PROGRAM's ITEMs -/
/-- as TRz, for ITEMs: c instructions of the class more than STEPS allow -/
def TRq (l : Launch) (Gr : zG) (n w d : Nat) (Z Z' : Nat → zS → zS → Prop) (c j j' st : Nat) (A : zS) : Prop := ∃ k A', CGo l Gr n w d k A A' ∧ KBc A A' ∧ ((∃ st' : Nat, st ≤ st' ∧ (k : Int) ≤ 300 * ((st' : Int) - st) + c ∧ ∀ B, Z st A B → ∃ B', MGo l Gr n w d B j B' j' ∧ Z' st' A' B' ∧ KBm B B') ∨ ((k : Int) ≤ 300 * (100001 - (st : Int)) + 300 + c ∧ ∀ B, Z st A B → ∃ B' j'', MGo l Gr n w d B j B' j'' ∧ KBm B B' ∧ FBT A' B'))
/-- where the inputs' words lie -/
def INF (iwF iwb : Nat) (S T : zS) : Prop := iwb ≤ 8192 ∧ ∀ a, a < iwF → ∃ q bt, S.1 20 a = nI q ∧ T.1 117 a = nI q ∧ S.1 19 a = nI bt ∧ q + bt ≤ iwb ∧ bt ≤ 32
section PGI
variable {l : Launch} {Gr : zG} {n w d D N M mf : Nat} {S T A B0 : zS} {i0 i0' p0 p0' lo hi vw vw' : Nat} {Av Av' : Nat → Nat → Prop} {p p' i i' j j' j1 j2 nv st c c1 c2 : Nat} {vb vq vt : Nat → Nat} {u hc sd no e a x iwF iwb : Nat} {bo : Nat → Nat} {Z Z1 Z2 : Nat → zS → zS → Prop}
theorem TRq_seq (h0 : Z st A B0) (h1 : TRq l Gr n w d Z Z1 c1 j j1 st A) (hZ : ∀ st A B, Z1 st A B → st ≤ 100000) (h2 : ∀ A1 B1 st1, Z1 st1 A1 B1 → TRq l Gr n w d Z1 Z2 c2 j1 j2 st1 A1) : TRq l Gr n w d Z Z2 (c1 + c2) j j2 st A := by
  obtain ⟨k1, A1, g1, kb1, ⟨st1, s1, b1, m1⟩ | ⟨b1, m1⟩⟩ := h1
  · obtain ⟨B01, -, z01, -⟩ := m1 B0 h0
    have hst1 := hZ _ _ _ z01
    obtain ⟨k2, A2, g2, kb2, ⟨st2, s2, b2, m2⟩ | ⟨b2, m2⟩⟩ := h2 A1 B01 st1 z01
    · refine ⟨k1 + k2, A2, CGo_tr g1 g2, KBc_tr kb1 kb2, Or.inl ⟨st2, by omega, by omega, fun B hB => ?_⟩⟩
      obtain ⟨B1, n1, z1, f1⟩ := m1 B hB
      obtain ⟨B2, n2, z2, f2⟩ := m2 B1 z1
      exact ⟨B2, MGo_tr n1 n2, z2, KBm_tr f1 f2⟩
    · refine ⟨k1 + k2, A2, CGo_tr g1 g2, KBc_tr kb1 kb2, Or.inr ⟨by omega, fun B hB => ?_⟩⟩
      obtain ⟨B1, n1, z1, f1⟩ := m1 B hB
      obtain ⟨B2, j3, n2, kb, fb⟩ := m2 B1 z1
      exact ⟨B2, j3, MGo_tr n1 n2, KBm_tr f1 kb, fb⟩
  · exact ⟨k1, A1, g1, kb1, Or.inr ⟨by omega, m1⟩⟩
theorem z_q {Fr : zS → zS → zS → zS → Prop} (h : TRz l Gr n w d Z Z1 Fr 0 j j1 st A) (hF : ∀ A A' B B', Fr A A' B B' → KBm B B') : TRq l Gr n w d Z Z1 0 j j1 st A := by
  obtain ⟨k1, A1, g1, kb1, ⟨st1, s1, b1, m1⟩ | ⟨b1, m1⟩⟩ := h
  · refine ⟨k1, A1, g1, kb1, Or.inl ⟨st1, s1, by omega, fun B hB => ?_⟩⟩
    obtain ⟨B1, n1, z1, f1⟩ := m1 B hB
    exact ⟨B1, n1, z1, hF _ _ _ _ f1⟩
  · exact ⟨k1, A1, g1, kb1, Or.inr ⟨by omega, m1⟩⟩
theorem TRq_kp {P : zS → Prop} (h : TRq l Gr n w d Z Z1 c j j1 st A) (hP : ∀ B B', KBm B B' → P B → P B') : TRq l Gr n w d (fun st A B => Z st A B ∧ P B) (fun st A B => Z1 st A B ∧ P B) c j j1 st A := by
  obtain ⟨k1, A1, g1, kb1, ⟨st1, s1, b1, m1⟩ | ⟨b1, m1⟩⟩ := h
  · refine ⟨k1, A1, g1, kb1, Or.inl ⟨st1, s1, b1, fun B hB => ?_⟩⟩
    obtain ⟨B1, n1, z1, f1⟩ := m1 B hB.1
    exact ⟨B1, n1, ⟨z1, hP _ _ f1 hB.2⟩, f1⟩
  · exact ⟨k1, A1, g1, kb1, Or.inr ⟨b1, fun B hB => m1 B hB.1⟩⟩
theorem TRq_le (h : TRq l Gr n w d Z Z1 c j j1 st A) (hc : c ≤ c2) : TRq l Gr n w d Z Z1 c2 j j1 st A := by
  obtain ⟨k1, A1, g1, kb1, ⟨st1, s1, b1, m1⟩ | ⟨b1, m1⟩⟩ := h
  · exact ⟨k1, A1, g1, kb1, Or.inl ⟨st1, s1, by omega, m1⟩⟩
  · exact ⟨k1, A1, g1, kb1, Or.inr ⟨by omega, m1⟩⟩
theorem ur_us : ∀ x, ur S x = us S 0 x
  | 0 => rfl
  | x + 1 => by
    show (if 34 ≤ S.1 4 x ∧ S.1 4 x ≤ 36 then ur S x + 1 else 0) = if 0 ≤ x ∧ 34 ≤ S.1 4 x ∧ S.1 4 x ≤ 36 then us S 0 x + 1 else 0
    rw [ur_us x]
    by_cases y : 34 ≤ S.1 4 x ∧ S.1 4 x ≤ 36
    · rw [if_pos y, if_pos ⟨Nat.zero_le _, y⟩]
    · rw [if_neg y, if_neg (fun z => y z.2)]
theorem DEn_p : ∀ {m : Nat}, DEn w D N M S T m Av p → p ≤ p' → DEn w D N M S T m Av p'
  | 0, h, _ => h
  | m + 1, h, hp => fun e a q y => by
    obtain ⟨A0, r, k, ib, ib', jb', q0, q1, h1, h2, ⟨v1, v2, v3, v4, v5, v6, v7, v8⟩, h4, h5⟩ := h e a q y
    exact ⟨A0, r, k, ib, ib', jb', q0, q1, h1, h2, ⟨v1, v2, v3, v4, v5, v6, v7, by omega⟩, h4, h5⟩
theorem DEn_up : ∀ {m : Nat} {Av : Nat → Nat → Prop} {p : Nat}, DEn w D N M S T m Av p → DEn w D N M S T (m + 1) Av p
  | 0, _, _, h => fun e a q y => absurd y (h e a q)
  | m + 1, _, _, h => fun e a q y => by
    obtain ⟨A0, r, k, ib, ib', jb', q0, q1, h1, h2, h3, h4, h5⟩ := h e a q y
    exact ⟨A0, r, k, ib, ib', jb', q0, q1, h1, h2, h3, h4, DEn_up h5⟩
theorem ms_26 (hj : j < 12000) (h78 : A.1 78 j = 26) (h82 : A.2 82 j = lN j1) : zMi l Gr (zc n w) 168 M_Mo_statement (d + 6) [.ref 105, .int (nI j)] A (fun v B' => v = nI (j1 + 1) ∧ B' = A) := e_Mo_statement (ms_0 (z := 26) hj h78 (by omega) (by omega) (by omega) (by omega) (fun _ => b_Mo_statement_165 (vp_in_nI hj (by omega)) ⟨_, rfl, by rw [nI_clamp (by omega), h82, show (lN j1).toInt32 = nI j1 from Int64.toInt32_ofNat', nI_1], rfl⟩) (by omega) (by omega) (by omega) (by omega) (by omega) (by omega) (by omega) (by omega) (by omega) (by omega) (by omega))
/-- an input word's bits -/
theorem VC_in {B : zS} {iw v : Nat} (h65 : B.1 73 65 = nI iw) (hiw : iw ≤ 8192) (h66 : ∃ g, g ≤ 1000000 ∧ B.1 73 66 = nI g) (hv : v < iw) : VC B (2 * nI v) := by
  obtain ⟨g, hg, h66⟩ := h66
  have e0 : 2 * nI v = nI (2 * v) := nI_mul2 v
  rw [e0]
  refine ⟨Or.inr ?_, fun y => absurd (Int32.not_lt.mp (nI_pos (n := 2 * v) (by omega))) y⟩
  rw [shr_n (by omega), show 2 * v / 2 = v by omega, h65, h66]
  rw [Int32.lt_iff_toInt_lt, Int32.toInt_sub, nI_toInt (by omega), nI_toInt (by omega), nI_toInt (by omega)]
  rw [Int.bmod_eq_of_le (by omega) (by omega)]
  omega
/-- nothing but the class's place goes on -/
theorem y_go (hg : ip_gk (lg_tbl, vwCl, Gr)) (ho : ip_old (lg_tbl, vwCl, Gr)) (hw : w ≤ 32) (cx : CTX S T N M) (h0 : (YB w Av S T i 0 st A B0 ∧ YE w Av S vw nv vb vq vt 0 0 no bo A B0) ∧ B0.1 73 65 = nI iwb) {z : Nat} (s4 : S.1 4 i = nI z) (hz : z < 56) (hz2 : z ≤ 20) (hr : oRow2 z = nI 0) (run : zMv l Gr (zc n w) 168 M_Builder_buildStatement (d + 11) [.ref 77, .int (nI i), .int (nI z)] (zi A 45 16 (nI (i + 1))) (fun X => X = zi (zi A 45 16 (nI (i + 1))) 45 16 (nI i') ∨ (X = zi A 45 16 (nI (i + 1)) ∧ i' = i + 1))) (mg : ∀ B, YB w Av S T i 0 st A B → MGo l Gr n w d B j B j') (hN : i < N) (hE : ∀ A' B, YB w Av S T i 0 st A B → B.1 73 65 = nI iwb → A'.1 20 = A.1 20 → A'.1 58 = A.1 58 → A'.2 = A.2 → EN w Av' S 0 0 0 0 A' B) (hk : VLk w nv vb vq vt Av' S) : TRq l Gr n w d (fun st A B => (YB w Av S T i 0 st A B ∧ YE w Av S vw nv vb vq vt 0 0 no bo A B) ∧ B.1 73 65 = nI iwb) (fun st A B => (YB w Av' S T i' 0 st A B ∧ YE w Av' S vw nv vb vq vt 0 0 no bo A B) ∧ B.1 73 65 = nI iwb) 1 j j' st A := by
  obtain ⟨h0, -⟩ := h0
  have hst := h0.1.2.2.2.1
  obtain ⟨A2, e2, run⟩ := zMv_det run
  have g1 := cy_1 (z := z) (e := 0) hg ho hw cx h0.1 hN s4 hz hr (by omega) (by omega) (kg_S (l := l) (n := n) (d := d) hg (by omega) run)
  have f2 : ∀ c k, ¬ (c = 45 ∧ k = 16) → A2.1 c k = A.1 c k := fun c k q => by
    rcases e2 with e2 | ⟨e2, -⟩
    · rw [e2, zi_get, if_neg q, zi_get, if_neg q]
    · rw [e2, zi_get, if_neg q]
  have c16 : A2.1 45 16 = nI i' := by
    rcases e2 with e2 | ⟨e2, ei⟩
    · rw [e2]; exact zi_v
    · rw [e2, ei]; exact zi_v
  have l2 : A2.2 = A.2 := by
    rcases e2 with e2 | ⟨e2, -⟩ <;> rw [e2] <;> rfl
  have c7 : A2.1 24 7 = 0 := (f2 24 7 (by omega)).trans h0.1.1.2.2.1
  have c18 : A2.1 45 18 = nI st := (f2 45 18 (by omega)).trans h0.1.1.2.2.2.2.2.1
  rw [kEnd_g (st := st) c7 c18 hst] at g1
  have kb : KBc A A2 := ⟨fun c k q1 q2 q3 => f2 c k (by omega), fun c k _ => by rw [l2]⟩
  have K : KEc A A2 := ⟨fun k q1 q2 => f2 24 k (by omega), fun c k q1 q2 => f2 c k (by omega)⟩
  refine ⟨1, A2, g1, kb, Or.inl ⟨st, Nat.le_refl _, by omega, fun B hB => ?_⟩⟩
  obtain ⟨⟨hB, y1, y2, y3, y8, y9, o1, o2, o3, o4, o5⟩, b65⟩ := hB
  refine ⟨B, mg B hB, ⟨⟨⟨⟨CCo_K hB.1.1 kb, (f2 3 5 (by omega)).trans hB.1.2.1, c7, (f2 45 8 (by omega)).trans hB.1.2.2.2.1, c16, c18, (f2 45 13 (by omega)).trans hB.1.2.2.2.2.2.2.1, (f2 45 12 (by omega)).trans hB.1.2.2.2.2.2.2.2⟩, hB.2.1, RL_El hB.2.2.1 hB.1.2.2.1 K ⟨fun _ _ => rfl, fun _ _ _ => rfl⟩ ⟨0, by omega, y1⟩, hst, hE A2 B hB b65 (funext fun k => f2 20 k (by omega)) (funext fun k => f2 58 k (by omega)) l2⟩, y1, y2, y3, hk, fun k hk => by rw [f2 58 k (by omega)]; exact y9 k hk, (f2 24 11 (by omega)).trans o1, o2, o3, fun t ht => by rw [f2 31 t (by omega)]; exact o4 t ht, fun t ht => ?_⟩, b65⟩, ⟨fun _ _ _ _ _ => rfl, fun _ _ _ => rfl⟩⟩
  obtain ⟨m, q1, q2, q3, q4⟩ := o5 t ht
  refine ⟨m, q1, q2, q3, fun x hx => ?_⟩
  rw [f2 32 _ (by omega)]
  exact q4 x hx
end PGI
