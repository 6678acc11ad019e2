/-! compile() of the class -/
def kIc (n : Nat) (S : zS) : zS := zfill (zi (zi S 17 6 0) 17 7 0) 23 0 n
def kC3 (n t : Nat) (S : zS) : zS := kIc n (zi (zi (zi (zi (zi (zi (zi (zi (zi (zi S 0 14 0) 0 15 0) 0 16 0) 3 4 0) 3 5 0) 3 6 (-1)) 8 1 (nI t)) 8 9 0) 8 11 0) 8 12 0)
def kCc (S : zS) : zS := zi (zi (zi (zi (zi (zi (zi S 24 8 (S.1 17 7)) 24 4 0) 24 5 0) 24 6 0) 24 7 0) 24 11 0) 31 0 0
/-- what the class's compile() ends with behind BUILD, for the reference's code T -/
def CBr (l : Launch) (Gr : zG) (n w d : Nat) (S T : zS) (Av : Nat → Nat → Prop) (N M vw iwb : Nat) (A' : zS) (x : Int32) (S' : zS) : Prop := KBc (kBu w (kCc S)) A' ∧ BUr l Gr n w d S T Av N M vw iwb A' ∧ x = A'.1 3 5 ∧ ((A'.1 3 5 = 0 ∧ ∃ an lv g A2, GLv an lv g A' ∧ FIN an lv g (zi A' 0 4 0) A2 ∧ S' = zi A2 0 14 1) ∨ (¬ A'.1 3 5 = 0 ∧ S' = kIc n (zi A' 0 4 0)))
section CMK
variable {l : Launch} {Gr : zG} {n w d D N M e q dm : Nat} {S S5 S6 T A B0 : zS} {b : Nat → Int32} {Av : Nat → Nat → Prop} {t k vw iw p i iwb : Nat} {Q : Option Value → zS → Prop} {R : Int32 → zS → Prop}
theorem m_iclear (hg : ip_gk (lg_tbl, vwCl, Gr)) (hn : n ≤ 16) : zMv l Gr (zc n w) 168 M_Inputs_clear (d + 1) [.ref 49] S (fun S' => S' = kIc n S) :=
  e_Inputs_clear (b_Inputs_clear_0 hg (m_fill_55 (by omega) 0) (fun S' e => b_Inputs_clear_18 ⟨rfl, e⟩))
/-- the end behind a FAULT -/
theorem c_bad (hg : ip_gk (lg_tbl, vwCl, Gr)) (hn : n ≤ 16) (h : ¬ S.1 3 5 = 0) (hR : R (S.1 3 5) (kIc n (zi S 0 4 0))) : zW l Gr (zc n w) 168 M_H_compile (e + 1 + 1) 99 [some (.ref 32)] [] S (fun v S' => ∃ x, v = some (.int x) ∧ R x S') := by
  refine b_H_compile_99 (fun _ => b_H_compile_129 hg (m_iclear hg hn) (fun S' e' => b_H_compile_136 ?_)) (fun y => absurd y h)
  rw [e']
  refine ⟨_, rfl, ?_⟩
  have e5 : (kIc n (zi S 0 4 0)).1 3 5 = S.1 3 5 := by
    unfold kIc zfill
    rw [zI_get, if_neg (by decide), zi_c (by decide), zi_c (by decide), zi_c (by decide)]
  rw [e5]
  exact hR
theorem w_cmp1 (hg : ip_gk (lg_tbl, vwCl, Gr)) (ho : ip_old (lg_tbl, vwCl, Gr)) (hn : 2 ≤ n ∧ n ≤ 16) (hw : 1 ≤ w ∧ w ≤ 32) (htx : ∀ k, k < t → tx (b k)) (ht : t ≤ 4000) (hb : S.1 2 = b) (h04 : S.1 0 4 = nI t) : ∃ S5, (PROK l Gr n w dm b t (kRd b t (kC3 n t S)) S5 ∨ PRBD l Gr n w dm b t (kRd b t (kC3 n t S)) S5) ∧ ∀ R : Int32 → zS → Prop, zW l Gr (zc n w) 168 M_H_compile (q + 302) 51 [some (.ref 32)] [] S5 (fun v S' => ∃ x, v = some (.int x) ∧ R x S') → zMi l Gr (zc n w) 168 M_H_compile (q + 302) [.ref 32] S R := by
  have f : ∀ c k, ¬ (c = 0 ∧ 14 ≤ k ∧ k ≤ 16) → ¬ (c = 3 ∧ 4 ≤ k ∧ k ≤ 6) → ¬ (c = 8 ∧ (k = 1 ∨ k = 9 ∨ k = 11 ∨ k = 12)) → ¬ (c = 17 ∧ (k = 6 ∨ k = 7)) → ¬ c = 23 → (kC3 n t S).1 c k = S.1 c k := fun c k q1 q2 q3 q4 q5 => by
    unfold kC3 kIc zfill
    rw [zI_get, if_neg q5, zi_get, if_neg (by omega), zi_get, if_neg (by omega), zi_get, if_neg (by omega), zi_get, if_neg (by omega), zi_get, if_neg (by omega), zi_get, if_neg (by omega), zi_get, if_neg (by omega), zi_get, if_neg (by omega), zi_get, if_neg (by omega), zi_get, if_neg (by omega), zi_get, if_neg (by omega), zi_get, if_neg (by omega)]
  have v : (kC3 n t S).1 3 4 = 0 ∧ (kC3 n t S).1 3 5 = 0 ∧ (kC3 n t S).1 8 1 = nI t ∧ (kC3 n t S).1 8 9 = 0 ∧ (kC3 n t S).1 17 6 = 0 ∧ (kC3 n t S).1 17 7 = 0 := by
    unfold kC3 kIc zfill
    refine ⟨?_, ?_, ?_, ?_, ?_, ?_⟩ <;> rw [zI_get, if_neg (by decide)]
    · rw [zi_c (by decide), zi_c (by decide), zi_c (by decide), zi_c (by decide), zi_c (by decide), zi_c (by decide), zi_k (by decide), zi_k (by decide)]; exact zi_v
    · rw [zi_c (by decide), zi_c (by decide), zi_c (by decide), zi_c (by decide), zi_c (by decide), zi_c (by decide), zi_k (by decide)]; exact zi_v
    · rw [zi_c (by decide), zi_c (by decide), zi_k (by decide), zi_k (by decide), zi_k (by decide)]; exact zi_v
    · rw [zi_c (by decide), zi_c (by decide), zi_k (by decide), zi_k (by decide)]; exact zi_v
    · rw [zi_k (by decide)]; exact zi_v
    · exact zi_v
  have rd := w_rdP (l := l) (Gr := Gr) (n := n) (w := w) (d := dm) (D := q + 300) (S := kC3 n t S) (b := b) hg ho hn hw htx ht (by omega) (by rw [← hb]; exact funext fun k => f 2 k (by omega) (by omega) (by omega) (by omega) (by omega)) v.1 v.2.1 v.2.2.1 v.2.2.2.1 v.2.2.2.2.1 v.2.2.2.2.2 (fun x hx => by
    unfold kC3 kIc zfill
    rw [zI_get, if_pos rfl, if_pos hx])
  obtain ⟨S5, h5, run⟩ := zMv_det rd
  refine ⟨S5, h5, fun R hR => e_H_compile (b_H_compile_0 hg (e_Code_clear (R := fun X => X = zi (zi (zi (zi (zi (zi S 0 14 0) 0 15 0) 0 16 0) 3 4 0) 3 5 0) 3 6 (-1)) (b_Code_clear_0 ⟨rfl, rfl⟩)) (fun S1 e1 => b_H_compile_22 hg (R := fun X => X = zi (zi (zi (zi S1 8 1 (S1.1 0 4)) 8 9 0) 8 11 0) 8 12 0) (e_Names_clear (b_Names_clear_0 ⟨rfl, rfl⟩)) (fun S2 e2 => b_H_compile_33 hg (m_iclear (d := q + 300) hg hn.2) (fun S3 e3 => ?_))))⟩
  have e04 : S1.1 0 4 = nI t := by
    rw [e1, zi_c (by decide), zi_c (by decide), zi_c (by decide), zi_k (by decide), zi_k (by decide), zi_k (by decide)]
    exact h04
  have e3' : S3 = kC3 n t S := by rw [e3, e2, e04, e1]; rfl
  rw [e3']
  have e4 : (kC3 n t S).1 0 4 = nI t := (f 0 4 (by omega) (by omega) (by omega) (by omega) (by omega)).trans h04
  refine b_H_compile_40 hg (R := fun X => X = S5) (by rw [e4]; exact run) (fun X eX => ?_)
  rw [eX]
  exact hR
theorem c_read_bad (hg : ip_gk (lg_tbl, vwCl, Gr)) (hn : n ≤ 16) (h : ¬ S.1 3 5 = 0) (hR : R (S.1 3 5) (kIc n (zi S 0 4 0))) : zW l Gr (zc n w) 168 M_H_compile (q + 302) 51 [some (.ref 32)] [] S (fun v S' => ∃ x, v = some (.int x) ∧ R x S') :=
  b_H_compile_51 (fun _ => b_H_compile_68 (fun _ => c_bad (e := q + 300) hg hn h hR) (fun y => absurd y h)) (fun y => absurd y h)
theorem c_sort (hg : ip_gk (lg_tbl, vwCl, Gr)) (hn : n ≤ 16) (h : S5.1 3 5 = 0) (run : zMv l Gr (zc n w) 168 M_Sorts_check (q + 301) [.ref 71] S5 (fun X => X = S6)) (k1 : ¬ S6.1 3 5 = 0 → R (S6.1 3 5) (kIc n (zi S6 0 4 0))) (k2 : S6.1 3 5 = 0 → zW l Gr (zc n w) 168 M_H_compile (q + 302) 78 [some (.ref 32)] [] S6 (fun v S' => ∃ x, v = some (.int x) ∧ R x S')) : zW l Gr (zc n w) 168 M_H_compile (q + 302) 51 [some (.ref 32)] [] S5 (fun v S' => ∃ x, v = some (.int x) ∧ R x S') :=
  b_H_compile_51 (fun y => absurd h y) (fun _ => b_H_compile_61 hg run (fun X e => by rw [e]; exact b_H_compile_68 (fun y => c_bad (e := q + 300) hg hn y (k1 y)) k2))
theorem c_build (hg : ip_gk (lg_tbl, vwCl, Gr)) (ho : ip_old (lg_tbl, vwCl, Gr)) (hn : n ≤ 16) (hw1 : 1 ≤ w) (hw : w ≤ 32) (cx : CTX S T N M) (hD : D ≤ 800) (nu : ∀ x, x ≤ N → ur S x ≤ 30) (inf : INF iw iwb S T) (an : aP n w D S T (hxI S) k Av vw iw N M p) (hk : k ≤ 4000) (hp : p ≤ 4000) (h5 : S.1 3 5 = 0) (h177 : S.1 17 7 = nI iwb) (hB : BMe T B0 iwb) : zW l Gr (zc n w) 168 M_H_compile (q + 302) 78 [some (.ref 32)] [] S (fun v S' => ∃ x, v = some (.int x) ∧ ∃ A', CBr l Gr n w (q + 289) S T Av N M vw iwb A' x S') := by
  have f : ∀ c k, ¬ (c = 24 ∧ ((4 ≤ k ∧ k ≤ 8) ∨ k = 11)) → ¬ (c = 31 ∧ k = 0) → (kCc S).1 c k = S.1 c k := fun c k q1 q2 => by
    unfold kCc
    rw [zi_get, if_neg (by omega), zi_get, if_neg (by omega), zi_get, if_neg (by omega), zi_get, if_neg (by omega), zi_get, if_neg (by omega), zi_get, if_neg (by omega), zi_get, if_neg (by omega)]
  have v24 : ∀ k, (4 ≤ k ∧ k ≤ 7) ∨ k = 11 → (kCc S).1 24 k = 0 := fun k q => by
    unfold kCc
    simp only [zi_get, true_and]
    have : k = 4 ∨ k = 5 ∨ k = 6 ∨ k = 7 ∨ k = 11 := by omega
    rcases this with rfl | rfl | rfl | rfl | rfl <;> rfl
  have v8 : (kCc S).1 24 8 = nI iwb := by
    unfold kCc
    rw [zi_c (by decide), zi_k (by decide), zi_k (by decide), zi_k (by decide), zi_k (by decide), zi_k (by decide), zi_v]
    exact h177
  have bk : BKe S (kCc S) iwb := ⟨⟨f 3 4 (by omega) (by omega), fun c k q => f c k (by omega) (by omega)⟩, (f 3 5 (by omega) (by omega)).trans h5, v8, v24 4 (by omega), v24 5 (by omega), v24 6 (by omega), v24 7 (by omega), v24 11 (by omega), by unfold kCc; exact zi_v⟩
  refine b_H_compile_78 hg (R := fun X => X = kCc S) (e_Circuit_clear (b_Circuit_clear_0 ⟨rfl, rfl⟩)) (fun X e => ?_)
  rw [e]
  refine b_H_compile_92 hg (w_build (d := q + 289) (B0 := B0) hg ho hw1 hw cx hD nu inf an hk hp bk hB) (fun A' hA => ?_)
  by_cases y : A'.1 3 5 = 0
  · -- there is a circuit
    have hC : ∃ an lv g, GLv an lv g A' := by
      rcases hA.2 with ⟨nv, vb, vq, vt, no, bo, st', -, hU⟩ | hU
      · obtain ⟨B', -, z, -⟩ := hU B0 hB
        rcases z.1.1.2.2.1.2.2 with ⟨-, -, hC⟩ | ⟨h, -⟩
        · obtain ⟨g, Dm, h1, -⟩ := lv_both hC
          exact ⟨_, _, g, h1⟩
        · exact absurd z.1.1.1.2.2.1 h
      · obtain ⟨B', j'', -, -, fb⟩ := hU B0 hB
        exact absurd y fb.1
    obtain ⟨an', lv', g, hG⟩ := hC
    have hG' : GLv an' lv' g (zi A' 0 4 0) := ⟨by rw [zi_c (by decide)]; exact hG.1, hG.2.1, fun k hk => by rw [zi_c (by decide), zi_c (by decide)]; exact hG.2.2 k hk⟩
    refine b_H_compile_99 (fun y2 => absurd y y2) (fun _ => b_H_compile_114 hg (w_finish (d := q + 300) hg hG') (fun A2 h2 => b_H_compile_121 (b_H_compile_136 ⟨_, rfl, A', hA.1, hA.2, ?_, Or.inl ⟨y, an', lv', g, A2, hG, h2, rfl⟩⟩)))
    rw [zi_c (by decide), h2.1 3 5 (by omega), zi_c (by decide)]
  · exact c_bad (e := q + 300) hg hn y ⟨A', hA.1, hA.2, rfl, Or.inr ⟨y, rfl⟩⟩
end CMK
