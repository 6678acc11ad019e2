/-! compile(): the class for every code of the reference -/
/-- a FAULT on both sides -/
def CMB (n : Nat) (x : Int32) (S1 S2 : zS) : Prop := ¬ x = 0 ∧ S1.1 3 5 = x ∧ S2.1 73 7 = x ∧ S1.1 3 6 = S2.1 73 8 ∧ S1.1 0 14 = 0 ∧ S2.1 73 83 = 0 ∧ S1.1 17 6 = 0 ∧ S1.1 17 7 = 0 ∧ ∀ q, q < n → S1.1 23 q = 0
/-- a circuit on both sides -/
def CMG (n w : Nat) (x : Int32) (S1 S2 : zS) : Prop := x = 0 ∧ ∃ S6 A A2 T6 B1 B Av D k t i j vw nv vb vq vt no bo st iw an lv g g' Dm, D ≤ 800 ∧ k ≤ 4000 ∧ t ≤ 4000 ∧ CTX S6 T6 i j ∧ aP n w D S6 T6 (hxI S6) k Av vw iw i j t ∧ Ic n w S6 iw ∧ KBc (kBu w (kCc S6)) A ∧ GLv an lv g A ∧ FIN an lv g (zi A 0 4 0) A2 ∧ S1 = zi A2 0 14 1 ∧ INs S6 (zi (zi T6 73 75 0) 73 65 0) B1 iw ∧ KBm (mBu B1) B ∧ 9 * no ≤ 4000 ∧ PGZ w Av S6 (mBu B1) i vw nv vb vq vt no bo (iW S6 iw) st A B ∧ CEQ A B ∧ GLv (gAn B) (gLv B) g' A ∧ MLv (gAn B) (gLv B) g' Dm B ∧ MFi (gAn B) (gLv B) g' Dm n no iw bo S6 B S2
/-- the reference's code with what BUILD begins with -/
def mFk (S : zS) (iw : Nat) (T : zS) : zS := zI (zi (mBu T) 73 65 (nI (iW S iw))) 117 (fun a => nI (iW S a))
section CLS
variable {l : Launch} {Gr : zG} {n w q : Nat} {S S5 S6 T T' U : zS} {b : Nat → Int32} {Av : Nat → Nat → Prop} {t k vw iw i j D N : Nat}
theorem gP_k {ni : Nat → Nat → Prop} : ∀ k i j iw vw D p, gP n w S T ni k i j iw vw D p → k ≤ p
  | 0, _, _, _, _, _, _, _ => Nat.zero_le _
  | k + 1, i, j, iw, vw, D, p, h => by
    obtain ⟨i0, j0, iw0, vw0, D0, p0, h0, -, -, h3, -⟩ := h
    have := gP_k k _ _ _ _ _ _ h0
    omega
theorem mFk_n {c k : Nat} (h : ¬ (c = 73 ∧ ((65 ≤ k ∧ k ≤ 70) ∨ k = 85 ∨ k = 94 ∨ k = 97 ∨ k = 101 ∨ k = 110))) (h2 : ¬ c = 117) : (mFk S iw T).1 c k = T.1 c k := by
  unfold mFk
  rw [zI_get, if_neg h2, zi_get, if_neg (by omega)]
  exact mBu_n (by omega)
theorem mFk_B (h7 : T.1 73 7 = 0) : BMe (mFk S iw T) (mFk S iw T) (iW S iw) := by
  have v : ∀ k, (66 ≤ k ∧ k ≤ 70) ∨ k = 85 ∨ k = 94 ∨ k = 97 ∨ k = 101 ∨ k = 110 → (mFk S iw T).1 73 k = 0 := fun k hk => by
    unfold mFk
    rw [zI_get, if_neg (by decide), zi_get, if_neg (by omega)]
    unfold mBu
    simp only [zi_get, true_and]
    have : k = 66 ∨ k = 67 ∨ k = 68 ∨ k = 69 ∨ k = 70 ∨ k = 85 ∨ k = 94 ∨ k = 97 ∨ k = 101 ∨ k = 110 := by omega
    rcases this with rfl | rfl | rfl | rfl | rfl | rfl | rfl | rfl | rfl | rfl <;> rfl
  refine ⟨⟨rfl, fun _ _ _ => rfl, fun _ => rfl⟩, (mFk_n (by omega) (by omega)).trans h7, ?_, v 66 (by omega), v 67 (by omega), v 68 (by omega), v 69 (by omega), v 70 (by omega), v 94 (by omega), v 97 (by omega), v 101 (by omega), v 110 (by omega), v 85 (by omega)⟩
  unfold mFk
  rw [zI_get, if_neg (by decide)]
  exact zi_v
theorem mFk_117 {a : Nat} : (mFk S iw T).1 117 a = nI (iW S a) := by
  unfold mFk
  rw [zI_get, if_pos rfl]
theorem Ic_6 (h : Ic n w S5 iw) (k : KGc S5 S6) : Ic n w S6 iw := by
  have f : ∀ c a, 17 ≤ c ∧ c ≤ 23 → S6.1 c a = S5.1 c a := fun c a q => k.1 c a (by omega)
  have e : ∀ m, iW S6 m = iW S5 m := fun m => iW_cong m (fun a _ => f 19 a (by omega))
  have eq : ∀ y m, iQ S6 y m = iQ S5 y m := fun y m => by
    induction m with
    | zero => rfl
    | succ m ih =>
      show iQ S6 y m + (if iO S6 m = y then iB S6 m else 0) = iQ S5 y m + (if iO S5 m = y then iB S5 m else 0)
      have e1 : iO S6 m = iO S5 m := by unfold iO; rw [f 18 m (by omega)]
      have e2 : iB S6 m = iB S5 m := by unfold iB; rw [f 19 m (by omega)]
      rw [ih, e1, e2]
  refine ⟨h.1, (f 17 6 (by omega)).trans h.2.1, by rw [f 17 7 (by omega), e]; exact h.2.2.1, fun a ha => ?_, fun y hy => by rw [f 23 y (by omega), eq]; exact h.2.2.2.2 y hy⟩
  obtain ⟨o, bt, a1, a2, a3, a4, a5, a6⟩ := h.2.2.2.1 a ha
  exact ⟨o, bt, a1, a2, (f 18 a (by omega)).trans a3, (f 19 a (by omega)).trans a4, by rw [f 20 a (by omega), e]; exact a5, (f 21 a (by omega)).trans a6⟩
theorem Ic_w (h : Ic n w S iw) : ∀ a, a < iw → ∃ bt, (bt = 1 ∨ bt = w) ∧ S.1 19 a = nI bt ∧ S.1 20 a = nI (iW S a) := fun a ha => by
  obtain ⟨o, bt, a1, a2, a3, a4, a5, a6⟩ := h.2.2.2.1 a ha
  exact ⟨bt, a2, a4, a5⟩
/-- the class's compile() behind SORTS, for the reference's code T' -/
theorem cls_b (hg : ip_gk (lg_tbl, vwCl, Gr)) (ho : ip_old (lg_tbl, vwCl, Gr)) (hn : n ≤ 16) (hw1 : 1 ≤ w) (hw : w ≤ 32) (hD : D ≤ 800) (hk : k ≤ 4000) (hp : t ≤ 4000) (hi : i ≤ 4000) (hj : j ≤ 12000) (h34 : S6.1 3 4 = nI i) (h5 : S6.1 3 5 = 0) (hIc : Ic n w S6 iw) (run : ∀ R : Int32 → zS → Prop, zW l Gr (zc n w) 168 M_H_compile (q + 302) 78 [some (.ref 32)] [] S6 (fun v S' => ∃ x, v = some (.int x) ∧ R x S') → zMi l Gr (zc n w) 168 M_H_compile (q + 302) [.ref 32] S R) (h13 : T'.1 73 13 = nI j) (hB : BMe T' T' (iW S6 iw)) (h117 : ∀ a, a < iw → T'.1 117 a = nI (iW S6 a)) (an : aP n w D S6 T' (hxI S6) k Av vw iw i j t) : ∃ A' x S1, CBr l Gr n w (q + 289) S6 T' Av i j vw (iW S6 iw) A' x S1 ∧ ip_RnM l (lg_tbl, vwCl, Gr) M_H_compile (q + 302) [.ref 32] (zP (zc n w) 168 S) (some (.int x), zP (zc n w) 168 S1) := by
  have nu : ∀ x, x ≤ i → ur S6 x ≤ 30 := fun x hx => by
    rw [ur_us]
    exact aP_us (fun _ _ _ _ z => z.1) _ _ _ _ _ _ _ an x hx
  obtain ⟨v, S1, ⟨x, rfl, A', hA⟩, c⟩ := run _ (c_build (q := q) (B0 := T') (iw := iw) hg ho hn hw1 hw ⟨h34, hi, h13, hj⟩ hD nu (inf_of hw1 hw hIc.1 (Ic_w hIc) h117) an hk hp h5 hIc.2.2.1 hB)
  exact ⟨A', x, S1, hA, c⟩
end CLS
