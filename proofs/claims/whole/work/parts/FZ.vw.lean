/-! view() on both -/
section VIW
variable {l : Launch} {Gr : zG} {n w d d' f t r i p Dm ob a j iw g G : Nat} {own av : Nat → Nat} {lg : Nat → List (Nat × Nat × Nat)} {S S' : zS} {x1 x2 x3 x4 x5 : Int32} {Q : Option Value → zS → Prop}
theorem nI_ltB {i M : Nat} (hi : i < 2 ^ 31) (h : nI i < nI M) : i < M := by
  have a := Int32.lt_iff_toInt_lt.mp h
  rw [nI_toInt hi] at a
  have b : (nI M).toInt = (M : Int).bmod (2 ^ 32) := Int32.toInt_ofNat'
  rw [b] at a
  simp only [Int.bmod] at a
  split at a <;> omega
theorem aN_ex : ∀ m c, c < aNb S m → ∃ g, g < m ∧ S.1 111 g = 1 ∧ aNb S g = c
  | 0, c, h => absurd h (Nat.not_lt_zero _)
  | m + 1, c, h => by
    by_cases z : c < aNb S m
    · obtain ⟨g, h1, h2⟩ := aN_ex m c z
      exact ⟨g, by omega, h2⟩
    · have h' : c < aNb S m + (if S.1 111 m = 1 then 1 else 0) := h
      by_cases y : S.1 111 m = 1
      · rw [if_pos y] at h'
        exact ⟨m, by omega, y, by omega⟩
      · rw [if_neg y] at h'
        omega
/-- the reference looks for an own bit's input -/
theorem vw_109 (hiw : iw ≤ 256) (hB : ∀ b, b < iw → iO S b < 16 ∧ iB S b ≤ 32 ∧ S.1 115 b = nI (iO S b) ∧ S.1 116 b = nI (iB S b)) (hq : iQ S f iw ≤ 8192) (hf : f < 16) (ha : a < iw) (hfa : iO S a = f) (hj : j < iB S a) (kk : zW l Gr (zc n w) 168 M_Mo_view (d + 1) 165 [some (.ref 105), some (.int (nI f)), none, some (.int x3), some (.int x4), some (.int x5), some (.int (nI j)), some (.int (nI a)), none] [] S Q) : ∀ c b, b + c = a → zW l Gr (zc n w) 168 M_Mo_view (d + 1) 109 [some (.ref 105), some (.int (nI f)), none, some (.int x3), some (.int x4), some (.int x5), some (.int (nI (iQ S f a + j - iQ S f b))), some (.int (nI b)), none] [] S Q
  | 0, b, h => by
    have eb : b = a := by omega
    subst eb
    obtain ⟨i1, i2, i3, i4⟩ := hB b ha
    have cb : (nI b).toNatClampNeg = b := nI_clamp (by omega)
    have vb : vp_in (nI b) 256 := vp_in_nI (by omega) (by omega)
    rw [show iQ S f b + j - iQ S f b = j by omega]
    exact b_Mo_view_109 vb (fun y => absurd (by rw [cb, i3, hfa]) y) (fun _ => b_Mo_view_120 vb (fun _ => kk) (fun y => absurd (by rw [cb, i4]; exact (nI_ltI (by omega) (by omega)).mpr hj) y))
  | c + 1, b, h => by
    obtain ⟨i1, i2, i3, i4⟩ := hB b (by omega)
    have cb : (nI b).toNatClampNeg = b := nI_clamp (by omega)
    have vb : vp_in (nI b) 256 := vp_in_nI (by omega) (by omega)
    have h1 := iq_mono (S := S) (f := f) (b := b + 1) (a := a) (by omega)
    have h2 := iq_mono (S := S) (f := f) (b := a) (a := iw) (by omega)
    have i2a := (hB a ha).2.1
    have ih := vw_109 hiw hB hq hf ha hfa hj kk c (b + 1) (by omega)
    rw [iq_s] at h1 ih
    by_cases y' : iO S b = f
    · rw [if_pos y'] at ih h1
      have e : S.1 115 (nI b).toNatClampNeg = nI f := by rw [cb, i3, y']
      refine b_Mo_view_109 vb (fun y => absurd e y) (fun _ => b_Mo_view_120 vb (fun z => ?_) (fun _ => b_Mo_view_132 vb (fun y => absurd e y) (fun _ => b_Mo_view_145 vb (b_Mo_view_156 ?_))))
      · rw [cb, i4] at z
        have := (nI_ltI (by omega) (by omega)).mp z
        omega
      · rw [cb, i4, sub_nn (by omega), show nI b + Int32.ofInt 1 = nI (b + 1) from nI_add b 1, show iQ S f a + j - iQ S f b - iB S b = iQ S f a + j - (iQ S f b + iB S b) by omega]
        exact ih
    · rw [if_neg y', Nat.add_zero] at ih
      have e : ¬ S.1 115 (nI b).toNatClampNeg = nI f := by rw [cb, i3]; exact fun q => y' ((nI_eq (by omega) (by omega)).mp q)
      refine b_Mo_view_109 vb (fun _ => b_Mo_view_132 vb (fun _ => b_Mo_view_155 (b_Mo_view_156 ?_)) (fun y => absurd y e)) (fun y => absurd y e)
      rw [show nI b + Int32.ofInt 1 = nI (b + 1) from nI_add b 1, show nI (iQ S f a + j - iQ S f b) - 0 = nI (iQ S f a + j - iQ S f b) from Int32.sub_zero _]
      exact ih
/-- the reference looks for an AND -/
theorem vw_260 (hG : G ≤ 40000) (h01 : ∀ b, b < G → S.1 111 b = 0 ∨ S.1 111 b = 1) (hg : g < G) (h1 : S.1 111 g = 1) {q : Int32} (hq : q / 3 = nI (aNb S g)) (kk : zW l Gr (zc n w) 168 M_Mo_view (d + 1) 296 [some (.ref 105), some (.int x1), none, some (.int q), none, some (.int (nI g)), none, none, none] [] S Q) : ∀ c b, b + c = g → zW l Gr (zc n w) 168 M_Mo_view (d + 1) 260 [some (.ref 105), some (.int x1), none, some (.int q), none, some (.int (nI b)), some (.int (nI (aNb S b))), none, none] [] S Q
  | 0, b, h => by
    have eb : b = g := by omega
    subst eb
    have cb : (nI b).toNatClampNeg = b := nI_clamp (by omega)
    have hl := aNb_n (S := S) b
    exact b_Mo_view_260 (vp_in_nI (by omega) (by omega)) (fun y => absurd y (by rw [cb, h1]; decide)) (fun _ => b_Mo_view_270 (fun _ => kk) (fun y => absurd (by rw [hq]; exact nI_le (Nat.le_refl _) (by omega)) y))
  | c + 1, b, h => by
    have cb : (nI b).toNatClampNeg = b := nI_clamp (by omega)
    have vb : vp_in (nI b) 40000 := vp_in_nI (by omega) (by omega)
    have hl := aNb_n (S := S) g
    have ih := vw_260 hG h01 hg h1 hq kk c (b + 1) (by omega)
    rcases h01 b (by omega) with z | z
    · have e : aNb S (b + 1) = aNb S b := by
        show aNb S b + (if S.1 111 b = 1 then 1 else 0) = _
        rw [if_neg (by rw [z]; decide)]
        rfl
      rw [e] at ih
      refine b_Mo_view_260 vb (fun _ => b_Mo_view_278 vb ?_) (fun y => absurd (by rw [cb]; exact z) y)
      rw [cb, z, show nI b + Int32.ofInt 1 = nI (b + 1) from nI_add b 1, show nI (aNb S b) + 0 = nI (aNb S b) from Int32.add_zero _]
      exact ih
    · have e : aNb S (b + 1) = aNb S b + 1 := by
        show aNb S b + (if S.1 111 b = 1 then 1 else 0) = _
        rw [if_pos z]
      have hlt := aNb_lt (S := S) (g := b) (G := g) (by omega) z
      rw [e] at ih
      refine b_Mo_view_260 vb (fun y => absurd y (by rw [cb, z]; decide)) (fun _ => b_Mo_view_270 (fun y => ?_) (fun _ => b_Mo_view_278 vb ?_))
      · rw [hq] at y
        have := (nI_leI (by omega) (by omega)).mp y
        omega
      · rw [cb, z, show nI b + Int32.ofInt 1 = nI (b + 1) from nI_add b 1, show nI (aNb S b) + 1 = nI (aNb S b + 1) from nI_add _ 1]
        exact ih
/-- a bit of what has come -/
theorem ab_both (hg : ip_gk (lg_tbl, vwCl, Gr)) (hn : 2 ≤ n ∧ n ≤ 16) (hw : 1 ≤ w ∧ w ≤ 32) (hC : iCk n w S) (hS : iSh S) (hD : Dm ≤ 2000) (hB : LNb n Dm own av ob) (n1 : LNc n Dm own av ob S) (n2 : LNm n Dm own av ob S) (g1 : LGc n Dm own av ob lg S) (g2 : LGm n Dm own av ob lg S) (hp : p < n) (hlen : (lg p).length ≤ (n - 1) * 2002) (hmem : ∀ m, m ∈ lg p → m.1 < n ∧ ¬ m.1 = p ∧ m.2.1 = p ∧ m.2.2 ≤ Dm + 1) : ∀ (L : List (Nat × Nat × Nat)) k i, (∀ j m, L[j]? = some m → (lg p)[k + j]? = some m) → i < lnS own av Dm ob L → i < 2 ^ 31 → ∃ v : Int32, zW l Gr (zc n w) 168 M_Post_arrivedBit (d + 3) 5 [some (.ref 97), some (.int (nI p)), none, some (.int (nI i)), some (.int (nI k)), none, none] [] S (fun y S' => ∃ x, y = some (.int x) ∧ x = v ∧ S' = S) ∧ zW l Gr (zc n w) 168 M_Mo_view (d' + 3) 357 [some (.ref 105), some (.int (nI p)), none, some (.int (nI i)), none, some (.int (nI (30060 * p + k))), none, none, none] [] S (fun y S' => ∃ x, y = some (.int x) ∧ x = v ∧ S' = S)
  | [], k, i, hL, hi, h31 => absurd hi (Nat.not_lt_zero _)
  | (f, t, r) :: L, k, i, hL, hi, h31 => by
    have hk : (lg p)[k]? = some (f, t, r) := by
      have := hL 0 (f, t, r) rfl
      exact this
    have hkl : k < (lg p).length := (List.getElem?_eq_some_iff.mp hk).1
    obtain ⟨m1, m2, m3, m4⟩ := hmem _ (List.mem_of_getElem? hk)
    have m3' : p = t := m3.symm
    subst m3'
    have m1' : f < n := m1
    have m4' : r ≤ Dm + 1 := m4
    have hN15 : (n - 1) * 2002 ≤ 30030 := Nat.mul_le_mul_right 2002 (show n - 1 ≤ 15 by omega)
    have cp : (nI p).toNatClampNeg = p := nI_clamp (by omega)
    have en : nI n - 1 = nI (n - 1) := sub_nn (b := 1) (by omega)
    have eI : nI p * ((nI n - 1) * 2002) + nI k = nI (p * ((n - 1) * 2002) + k) := by rw [en, show nI (n - 1) * 2002 = nI ((n - 1) * 2002) from nI_mul _ 2002, nI_mul, nI_add]
    have hI1 : p * ((n - 1) * 2002) + k < n * ((n - 1) * 2002) := by
      have := Nat.mul_le_mul_right ((n - 1) * 2002) (show p + 1 ≤ n by omega)
      rw [Nat.succ_mul] at this
      omega
    have hI2 : n * ((n - 1) * 2002) ≤ 480480 := Nat.mul_le_mul hn.2 hN15
    have e72 : S.1 72 (nI p * ((nI n - 1) * 2002) + nI k).toNatClampNeg = eMs (f, p, r) := by
      rw [eI, nI_clamp (by omega)]
      exact (g1 p hp).2.2 k _ hk
    obtain ⟨r1, r3⟩ := (g2 p hp).2.2 k _ hk
    have v5 : vp_in (nI (30060 * p + k)) 481000 := vp_in_nI (by omega) (by omega)
    have c5 : (nI (30060 * p + k)).toNatClampNeg = 30060 * p + k := nI_clamp (by omega)
    have hl := lnF_le hB m1' m4'
    have hi' : i < lnF own av Dm ob f r + lnS own av Dm ob L := hi
    have cA : ∀ {v : Int32}, (nI (lnF own av Dm ob f r) ≤ nI i → zW l Gr (zc n w) 168 M_Post_arrivedBit (d + 3) 54 [some (.ref 97), some (.int (nI p)), none, some (.int (nI i)), some (.int (nI k)), none, some (.int (nI (lnF own av Dm ob f r)))] [] S (fun y S' => ∃ x, y = some (.int x) ∧ x = v ∧ S' = S)) → (¬ nI (lnF own av Dm ob f r) ≤ nI i → zW l Gr (zc n w) 168 M_Post_arrivedBit (d + 3) 46 [some (.ref 97), none, none, some (.int (nI i)), none, some (.int (eMs (f, p, r))), none] [] S (fun y S' => ∃ x, y = some (.int x) ∧ x = v ∧ S' = S)) → zW l Gr (zc n w) 168 M_Post_arrivedBit (d + 3) 5 [some (.ref 97), some (.int (nI p)), none, some (.int (nI i)), some (.int (nI k)), none, none] [] S (fun y S' => ∃ x, y = some (.int x) ∧ x = v ∧ S' = S) := fun q1 q2 => by
      refine b_Post_arrivedBit_5 (vp_in_nI hp (by omega)) (fun y => absurd y (by rw [cp, (g1 p hp).1]; exact nI_ge (by omega) (by omega))) (fun _ => b_Post_arrivedBit_16 hg (by rw [eI]; exact vp_in_nI hI1 (by omega)) (by rw [e72]; exact w_msgBits hg hn.2 hD n1 m1' (by omega) m4') (fun v S1 e => ?_))
      obtain ⟨rfl, rfl⟩ := e
      rw [e72]
      exact b_Post_arrivedBit_38 q1 q2
    have cM : ∀ {v : Int32}, (nI i < nI (lnF own av Dm ob f r) → zW l Gr (zc n w) 168 M_Mo_view (d' + 3) 406 [some (.ref 105), some (.int (nI p)), none, some (.int (nI i)), none, some (.int (nI (30060 * p + k))), none, none, none] [] S (fun y S' => ∃ x, y = some (.int x) ∧ x = v ∧ S' = S)) → (¬ nI i < nI (lnF own av Dm ob f r) → zW l Gr (zc n w) 168 M_Mo_view (d' + 3) 379 [some (.ref 105), some (.int (nI p)), none, some (.int (nI i)), none, some (.int (nI (30060 * p + k))), none, none, none] [] S (fun y S' => ∃ x, y = some (.int x) ∧ x = v ∧ S' = S)) → zW l Gr (zc n w) 168 M_Mo_view (d' + 3) 357 [some (.ref 105), some (.int (nI p)), none, some (.int (nI i)), none, some (.int (nI (30060 * p + k))), none, none, none] [] S (fun y S' => ∃ x, y = some (.int x) ∧ x = v ∧ S' = S) := fun q1 q2 => by
      refine b_Mo_view_357 hg v5 (by rw [c5, r1, r3]; exact wm_len hn.2 hD n2 m1' m4') (fun v S1 e => ?_)
      obtain ⟨rfl, rfl⟩ := e
      exact b_Mo_view_376 q1 q2
    by_cases z : i < lnF own av Dm ob f r
    · obtain ⟨v, v1, v2⟩ := bt_both (l := l) (Gr := Gr) (d := d) (d' := d') (t := p) hg hn hw hC hS hD hB n1 m1' hp m4' z
      refine ⟨v, cA (fun y => absurd y (nI_ge (by omega) (by omega))) (fun _ => b_Post_arrivedBit_46 hg v1 (fun y S1 e => ?_)), cM (fun _ => b_Mo_view_406 hg v5 (by rw [c5, r1, r3]; exact v2) (fun y S1 e => ?_)) (fun y => absurd ((nI_ltI (by omega) (by omega)).mpr z) y)⟩
      · obtain ⟨rfl, rfl⟩ := e
        exact b_Post_arrivedBit_53 ⟨_, rfl, rfl, rfl⟩
      · obtain ⟨rfl, rfl⟩ := e
        exact b_Mo_view_426 ⟨_, rfl, rfl, rfl⟩
    · obtain ⟨v, v1, v2⟩ := ab_both hg hn hw hC hS hD hB n1 n2 g1 g2 hp hlen hmem L (k + 1) (i - lnF own av Dm ob f r) (fun j m hj => by
        have := hL (j + 1) m hj
        rw [show k + (j + 1) = k + 1 + j by omega] at this
        exact this) (by omega) (by omega)
      refine ⟨v, cA (fun _ => b_Post_arrivedBit_54 ?_) (fun y => absurd (nI_le (by omega) (by omega)) y), cM (fun y => absurd ((nI_ltI (by omega) (by omega)).mp y) z) (fun _ => b_Mo_view_379 hg v5 (by rw [c5, r1, r3]; exact wm_len hn.2 hD n2 m1' m4') (fun y S1 e => ?_))⟩
      · rw [sub_nn (by omega), show nI k + Int32.ofInt 1 = nI (k + 1) from nI_add k 1]
        exact v1
      · obtain ⟨rfl, rfl⟩ := e
        refine b_Mo_view_398 ?_
        rw [show nI i - nI (lnF own av Dm ob (f, p, r).1 (f, p, r).2.2) = nI (i - lnF own av Dm ob f r) from sub_nn (a := i) (b := lnF own av Dm ob f r) (by omega), show nI (30060 * p + k) + Int32.ofInt 1 = nI (30060 * p + (k + 1)) from nI_add _ 1]
        exact v2
end VIW
