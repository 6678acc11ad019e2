/-! what a deal begins with: fills, fixed values, forgotten draws, the first messages -/
/-- the first round's messages of p, p + 1, .. (c parties) -/
def bgL (n : Nat) : Nat → Nat → List (Nat × Nat × Nat)
  | 0, _ => []
  | c + 1, p => sndL p 0 n 0 ++ bgL n c (p + 1)
section BGN
variable {l : Launch} {Gr : zG} {n w d t r y q f i : Nat} {S S' S'' : zS} {x s : Int32} {Qs : Nat → Int32} {L : List (Nat × Nat × Nat)} {Q : Option Value → zS → Prop}
theorem fl_98 (hb : n ≤ 100000) (v : Int32) {Q : Option Value → zS → Prop} (k : Q none (zfill S 66 v n)) : ∀ (j i : Nat), i + j = n → zW l Gr (zc n w) 168 M_Arrays_fill_78e d 5 [some (.ref 98), some (.int v), some (.int (nI i)), some (.int (nI n))] [] (zfill S 66 v i) Q
  | 0, i, h => b_Arrays_fill_78e_r98_5 (fun _ => b_Arrays_fill_78e_r98_20 (by rw [show i = n by omega]; exact k)) (fun q => absurd (nI_le (a := n) (b := i) (by omega) (by omega)) q)
  | j + 1, i, h => b_Arrays_fill_78e_r98_5 (fun q => absurd q (nI_ge (a := i) (b := n) (by omega) (by omega))) (fun _ => b_Arrays_fill_78e_r98_10 (vp_in_nI (by omega) (by omega)) (by
      rw [nI_clamp (by omega), zfill_s, show nI i + Int32.ofInt 1 = nI (i + 1) from nI_add i 1]
      exact fl_98 hb v k j (i + 1) (by omega)))
theorem m_fill_98 (hb : n ≤ 100000) (v : Int32) : zMv l Gr (zc n w) 168 M_Arrays_fill_78e d [.ref 98, .int v] S (fun S' => S' = zfill S 66 v n) :=
  e_Arrays_fill_78e_r98 (b_Arrays_fill_78e_r98_0 (by
    have := fl_98 (l := l) (Gr := Gr) (n := n) (w := w) (d := d) (S := S) hb v (Q := fun v' S' => v' = none ∧ S' = zfill S 66 v n) ⟨rfl, rfl⟩ n 0 (by omega)
    rw [zfill_0] at this
    exact this))
theorem fl_99 (hb : n ≤ 100000) (v : Int32) {Q : Option Value → zS → Prop} (k : Q none (zfill S 67 v n)) : ∀ (j i : Nat), i + j = n → zW l Gr (zc n w) 168 M_Arrays_fill_78e d 5 [some (.ref 99), some (.int v), some (.int (nI i)), some (.int (nI n))] [] (zfill S 67 v i) Q
  | 0, i, h => b_Arrays_fill_78e_r99_5 (fun _ => b_Arrays_fill_78e_r99_20 (by rw [show i = n by omega]; exact k)) (fun q => absurd (nI_le (a := n) (b := i) (by omega) (by omega)) q)
  | j + 1, i, h => b_Arrays_fill_78e_r99_5 (fun q => absurd q (nI_ge (a := i) (b := n) (by omega) (by omega))) (fun _ => b_Arrays_fill_78e_r99_10 (vp_in_nI (by omega) (by omega)) (by
      rw [nI_clamp (by omega), zfill_s, show nI i + Int32.ofInt 1 = nI (i + 1) from nI_add i 1]
      exact fl_99 hb v k j (i + 1) (by omega)))
theorem m_fill_99 (hb : n ≤ 100000) (v : Int32) : zMv l Gr (zc n w) 168 M_Arrays_fill_78e d [.ref 99, .int v] S (fun S' => S' = zfill S 67 v n) :=
  e_Arrays_fill_78e_r99 (b_Arrays_fill_78e_r99_0 (by
    have := fl_99 (l := l) (Gr := Gr) (n := n) (w := w) (d := d) (S := S) hb v (Q := fun v' S' => v' = none ∧ S' = zfill S 67 v n) ⟨rfl, rfl⟩ n 0 (by omega)
    rw [zfill_0] at this
    exact this))
theorem fl_100 (hb : n ≤ 100000) (v : Int32) {Q : Option Value → zS → Prop} (k : Q none (zfill S 68 v n)) : ∀ (j i : Nat), i + j = n → zW l Gr (zc n w) 168 M_Arrays_fill_78e d 5 [some (.ref 100), some (.int v), some (.int (nI i)), some (.int (nI n))] [] (zfill S 68 v i) Q
  | 0, i, h => b_Arrays_fill_78e_r100_5 (fun _ => b_Arrays_fill_78e_r100_20 (by rw [show i = n by omega]; exact k)) (fun q => absurd (nI_le (a := n) (b := i) (by omega) (by omega)) q)
  | j + 1, i, h => b_Arrays_fill_78e_r100_5 (fun q => absurd q (nI_ge (a := i) (b := n) (by omega) (by omega))) (fun _ => b_Arrays_fill_78e_r100_10 (vp_in_nI (by omega) (by omega)) (by
      rw [nI_clamp (by omega), zfill_s, show nI i + Int32.ofInt 1 = nI (i + 1) from nI_add i 1]
      exact fl_100 hb v k j (i + 1) (by omega)))
theorem m_fill_100 (hb : n ≤ 100000) (v : Int32) : zMv l Gr (zc n w) 168 M_Arrays_fill_78e d [.ref 100, .int v] S (fun S' => S' = zfill S 68 v n) :=
  e_Arrays_fill_78e_r100 (b_Arrays_fill_78e_r100_0 (by
    have := fl_100 (l := l) (Gr := Gr) (n := n) (w := w) (d := d) (S := S) hb v (Q := fun v' S' => v' = none ∧ S' = zfill S 68 v n) ⟨rfl, rfl⟩ n 0 (by omega)
    rw [zfill_0] at this
    exact this))
theorem fl_101 (hb : n ≤ 100000) (v : Int32) {Q : Option Value → zS → Prop} (k : Q none (zfill S 69 v n)) : ∀ (j i : Nat), i + j = n → zW l Gr (zc n w) 168 M_Arrays_fill_78e d 5 [some (.ref 101), some (.int v), some (.int (nI i)), some (.int (nI n))] [] (zfill S 69 v i) Q
  | 0, i, h => b_Arrays_fill_78e_r101_5 (fun _ => b_Arrays_fill_78e_r101_20 (by rw [show i = n by omega]; exact k)) (fun q => absurd (nI_le (a := n) (b := i) (by omega) (by omega)) q)
  | j + 1, i, h => b_Arrays_fill_78e_r101_5 (fun q => absurd q (nI_ge (a := i) (b := n) (by omega) (by omega))) (fun _ => b_Arrays_fill_78e_r101_10 (vp_in_nI (by omega) (by omega)) (by
      rw [nI_clamp (by omega), zfill_s, show nI i + Int32.ofInt 1 = nI (i + 1) from nI_add i 1]
      exact fl_101 hb v k j (i + 1) (by omega)))
theorem m_fill_101 (hb : n ≤ 100000) (v : Int32) : zMv l Gr (zc n w) 168 M_Arrays_fill_78e d [.ref 101, .int v] S (fun S' => S' = zfill S 69 v n) :=
  e_Arrays_fill_78e_r101 (b_Arrays_fill_78e_r101_0 (by
    have := fl_101 (l := l) (Gr := Gr) (n := n) (w := w) (d := d) (S := S) hb v (Q := fun v' S' => v' = none ∧ S' = zfill S 69 v n) ⟨rfl, rfl⟩ n 0 (by omega)
    rw [zfill_0] at this
    exact this))
theorem fl_102 (hb : n ≤ 100000) (v : Int32) {Q : Option Value → zS → Prop} (k : Q none (zfill S 70 v n)) : ∀ (j i : Nat), i + j = n → zW l Gr (zc n w) 168 M_Arrays_fill_78e d 5 [some (.ref 102), some (.int v), some (.int (nI i)), some (.int (nI n))] [] (zfill S 70 v i) Q
  | 0, i, h => b_Arrays_fill_78e_r102_5 (fun _ => b_Arrays_fill_78e_r102_20 (by rw [show i = n by omega]; exact k)) (fun q => absurd (nI_le (a := n) (b := i) (by omega) (by omega)) q)
  | j + 1, i, h => b_Arrays_fill_78e_r102_5 (fun q => absurd q (nI_ge (a := i) (b := n) (by omega) (by omega))) (fun _ => b_Arrays_fill_78e_r102_10 (vp_in_nI (by omega) (by omega)) (by
      rw [nI_clamp (by omega), zfill_s, show nI i + Int32.ofInt 1 = nI (i + 1) from nI_add i 1]
      exact fl_102 hb v k j (i + 1) (by omega)))
theorem m_fill_102 (hb : n ≤ 100000) (v : Int32) : zMv l Gr (zc n w) 168 M_Arrays_fill_78e d [.ref 102, .int v] S (fun S' => S' = zfill S 70 v n) :=
  e_Arrays_fill_78e_r102 (b_Arrays_fill_78e_r102_0 (by
    have := fl_102 (l := l) (Gr := Gr) (n := n) (w := w) (d := d) (S := S) hb v (Q := fun v' S' => v' = none ∧ S' = zfill S 70 v n) ⟨rfl, rfl⟩ n 0 (by omega)
    rw [zfill_0] at this
    exact this))
theorem zf_v {c k : Nat} {v : Int32} {m : Nat} (h : k < m) : (zfill S c v m).1 c k = v := by
  show (if c = c then (fun k => if k < m then v else S.1 c k) else S.1 c) k = v
  rw [if_pos rfl]
  exact if_pos h
theorem zf_c {c c' k : Nat} {v : Int32} {m : Nat} (h : c' ≠ c) : (zfill S c v m).1 c' k = S.1 c' k := zI_c h
theorem bgL_len : ∀ c p, p + c ≤ n → (bgL n c p).length = c * (n - 1)
  | 0, p, _ => by
    rw [Nat.zero_mul]
    rfl
  | c + 1, p, h => by
    show (sndL p 0 n 0 ++ bgL n c (p + 1)).length = _
    rw [List.length_append, bgL_len c (p + 1) (by omega), sndL_all (by omega), Nat.succ_mul]
    omega
theorem bgL_mem {m : Nat × Nat × Nat} : ∀ {c p : Nat}, m ∈ bgL n c p → p ≤ m.1 ∧ m.1 < p + c ∧ m.2.1 < n ∧ ¬ m.2.1 = m.1 ∧ m.2.2 = 0
  | 0, p, h => absurd h List.not_mem_nil
  | c + 1, p, h => by
    rcases List.mem_append.mp (show m ∈ sndL p 0 n 0 ++ bgL n c (p + 1) from h) with y | y
    · obtain ⟨h1, h2, h3, h4, h5⟩ := sndL_mem y
      exact ⟨by omega, by omega, by omega, by rw [h1]; exact h5, h2⟩
    · obtain ⟨h1, h2, h3, h4, h5⟩ := bgL_mem y
      exact ⟨by omega, by omega, h3, h4, h5⟩
theorem bgL_nd : ∀ c p, (bgL n c p).Nodup
  | 0, p => List.nodup_nil
  | c + 1, p => List.nodup_append.mpr ⟨sndL_nd n 0, bgL_nd c (p + 1), fun a ha b hb e => by
    have h1 := (sndL_mem ha).1
    have h2 := (bgL_mem hb).1
    rw [← e, h1] at h2
    omega⟩
theorem PIv_0 (Dm : Nat) : PIv n Dm (bgL n n 0, fun _ => (0, 0, 0)) := by
  refine ⟨fun _ _ => false, fun _ _ => false, fun p hp => Nat.zero_le _, fun p q _ _ => Nat.zero_le _, fun m hm => ?_, bgL_nd n 0, fun p hp => ⟨(cnt_0 n).symm, (cnt_0 n).symm, rfl, rfl⟩, fun t f _ _ hd => absurd hd Bool.false_ne_true, fun t f _ _ hd => absurd hd Bool.false_ne_true⟩
  obtain ⟨h1, h2, h3, h4, h5⟩ := bgL_mem hm
  refine ⟨by omega, h3, fun e => h4 e.symm, ?_, by omega, Nat.zero_le _⟩
  rw [h5]
  exact Nat.zero_le _
theorem bg_57 (hg : ip_gk (lg_tbl, vwCl, Gr)) (hn : n ≤ 16) : ∀ c p L S, p + c = n → FLc L S → (∀ q, q < n → S.1 66 q = 0) → L.length + c * (n - 1) ≤ 2 * n * (n - 1) → (∀ S', FLc (L ++ bgL n c p) S' → FSc S S' → Q none S') → zW l Gr (zc n w) 168 M_Post_begin (d + 1) 57 [some (.ref 97), some (.int (nI p))] [] S Q
  | 0, p, L, S, h, hF, h66, hl, kk => by
    exact b_Post_begin_57 (fun _ => b_Post_begin_77 (kk S (by show FLc (L ++ []) S; rw [List.append_nil]; exact hF) ⟨fun _ _ _ _ => rfl, fun _ _ => rfl⟩)) (fun y => absurd (nI_le (by omega) (by omega)) y)
  | c + 1, p, L, S, h, hF, h66, hl, kk => by
    rw [Nat.succ_mul] at hl
    have e1 := sndL_all (n := n) (t := p) (r := 0) (by omega)
    refine b_Post_begin_57 (fun y => absurd y (nI_ge (by omega) (by omega))) (fun _ => b_Post_begin_65 hg (w_send (r := 0) hn (by omega) (by omega) hF (h66 p (by omega)) (by omega)) (fun v S1 e => ?_))
    obtain ⟨rfl, f1, f2⟩ := e
    refine b_Post_begin_70 ?_
    rw [show nI p + Int32.ofInt 1 = nI (p + 1) from nI_add p 1]
    refine bg_57 hg hn c (p + 1) _ S1 (by omega) f1 (fun q hq => by rw [f2.1 66 q (by omega) (by omega)]; exact h66 q hq) (by rw [List.length_append]; omega) (fun S' a1 a2 => kk S' ?_ ⟨fun c k q1 q2 => (a2.1 c k q1 q2).trans (f2.1 c k q1 q2), fun c k => (a2.2 c k).trans (f2.2 c k)⟩)
    rw [List.append_assoc] at a1
    exact a1
/-- what begin() of the class leaves -/
def FBg (S S' : zS) : Prop := (∀ c k, ¬ (c = 65 ∧ (10 ≤ k ∧ k ≤ 12)) → ¬ (66 ≤ c ∧ c ≤ 71) → S'.1 c k = S.1 c k) ∧ ∀ c k, S'.2 c k = S.2 c k
theorem w_begin (hg : ip_gk (lg_tbl, vwCl, Gr)) (hn : n ≤ 16) : zMv l Gr (zc n w) 168 M_Post_begin (d + 1) [.ref 97] S (fun S' => FLc (bgL n n 0) S' ∧ (∀ p, p < n → S'.1 66 p = 0 ∧ S'.1 67 p = 0 ∧ S'.1 68 p = 0 ∧ S'.1 69 p = 0 ∧ S'.1 70 p = 0) ∧ S'.1 65 11 = 0 ∧ S'.1 65 12 = 0 ∧ FBg S S') := by
  refine e_Post_begin (b_Post_begin_0 hg (m_fill_98 (by omega) 0) (fun S1 e1 => b_Post_begin_8 hg (m_fill_99 (by omega) 0) (fun S2 e2 => b_Post_begin_16 hg (m_fill_100 (by omega) 0) (fun S3 e3 => b_Post_begin_24 hg (m_fill_101 (by omega) 0) (fun S4 e4 => b_Post_begin_32 hg (m_fill_102 (by omega) 0) (fun S5 e5 => b_Post_begin_40 ?_))))))
  have z : ∀ c, 66 ≤ c → c ≤ 70 → ∀ p, p < n → S5.1 c p = 0 := fun c h1 h2 p hp => by
    have : c = 66 ∨ c = 67 ∨ c = 68 ∨ c = 69 ∨ c = 70 := by omega
    rcases this with rfl | rfl | rfl | rfl | rfl
    · rw [e5, zf_c (by decide), e4, zf_c (by decide), e3, zf_c (by decide), e2, zf_c (by decide), e1, zf_v hp]
    · rw [e5, zf_c (by decide), e4, zf_c (by decide), e3, zf_c (by decide), e2, zf_v hp]
    · rw [e5, zf_c (by decide), e4, zf_c (by decide), e3, zf_v hp]
    · rw [e5, zf_c (by decide), e4, zf_v hp]
    · rw [e5, zf_v hp]
  have fr : ∀ c k, ¬ (66 ≤ c ∧ c ≤ 70) → S5.1 c k = S.1 c k := fun c k h => by
    rw [e5, zf_c (by omega), e4, zf_c (by omega), e3, zf_c (by omega), e2, zf_c (by omega), e1, zf_c (by omega)]
  have fr2 : ∀ c k, S5.2 c k = S.2 c k := fun c k => by
    rw [e5]
    show S4.2 c k = _
    rw [e4]
    show S3.2 c k = _
    rw [e3]
    show S2.2 c k = _
    rw [e2]
    show S1.2 c k = _
    rw [e1]
    rfl
  refine bg_57 hg hn n 0 [] _ (by omega) ⟨by rw [zi_k (by decide), zi_k (by decide), zi_v]; rfl, fun k m hk => absurd hk (by simp)⟩ (fun q hq => by rw [zi_c (by decide), zi_c (by decide), zi_c (by decide)]; exact z 66 (by omega) (by omega) q hq) (by
    show 0 + n * (n - 1) ≤ 2 * n * (n - 1)
    have e : 2 * n * (n - 1) = n * (n - 1) + n * (n - 1) := by rw [Nat.mul_assoc, Nat.two_mul]
    omega) (fun S' a1 a2 => ⟨rfl, a1, fun p hp => ?_, ?_, ?_, fun c k q1 q2 => ?_, fun c k => ?_⟩)
  · have q : ∀ c, 66 ≤ c → c ≤ 70 → S'.1 c p = 0 := fun c h1 h2 => by
      rw [a2.1 c p (by omega) (by omega), zi_c (by omega), zi_c (by omega), zi_c (by omega)]
      exact z c h1 h2 p hp
    exact ⟨q 66 (by omega) (by omega), q 67 (by omega) (by omega), q 68 (by omega) (by omega), q 69 (by omega) (by omega), q 70 (by omega) (by omega)⟩
  · rw [a2.1 65 11 (by omega) (by omega), zi_k (by decide), zi_v]
  · rw [a2.1 65 12 (by omega) (by omega), zi_v]
  · rw [a2.1 c k (by omega) (by omega), zi_get, if_neg (by omega), zi_get, if_neg (by omega), zi_get, if_neg (by omega)]
    exact fr c k (by omega)
  · exact (a2.2 c k).trans (fr2 c k)
/-- Inputs.fix() -/
theorem w_fix {iw : Nat} (hi : iw ≤ 256) (h6 : S.1 17 6 = nI iw) : zMv l Gr (zc n w) 168 M_Inputs_fix (d + 1) [.ref 49] S (fun S' => (∀ a, a < iw → S'.1 22 a = S.1 21 a) ∧ (∀ c k, ¬ c = 22 → S'.1 c k = S.1 c k) ∧ ∀ c k, S'.2 c k = S.2 c k) := by
  have e0 : ((0 : Int32)).toNatClampNeg = 0 := rfl
  refine e_Inputs_fix (b_Inputs_fix_0 (by rw [h6]; exact nI_pos (by omega)) (by rw [h6, nI_clamp (by omega), e0]; omega) ⟨rfl, fun a ha => ?_, fun c k q => zI_c q, fun _ _ => rfl⟩)
  rw [h6, nI_clamp (by omega), zI_get, if_pos rfl]
  unfold va_cpy
  rw [e0, if_pos (by omega), show 0 + (a - 0) = a by omega]
/-- Dealer.forgetUsed() -/
theorem w_forget (hD : DCq q Qs s i S) (hQ : ∀ k, k < q → Qs k = 0 ∨ Qs k = 1) : zMv l Gr (zc n w) 168 M_Dealer_forgetUsed (d + 1) [.ref 91] S (fun S' => S'.1 59 2 = nI (q - min i q) ∧ S'.1 59 3 = 0 ∧ S'.1 59 4 = sdI q s i ∧ (∀ k, k < q - min i q → S'.1 60 k = Qs (min i q + k)) ∧ (∀ c k, ¬ (c = 59 ∧ (k = 2 ∨ k = 3)) → ¬ c = 60 → S'.1 c k = S.1 c k) ∧ ∀ c k, S'.2 c k = S.2 c k) := by
  obtain ⟨hq, h2, h3, h4, h60⟩ := hD
  have hu : min i q ≤ q := Nat.min_le_right _ _
  have e0 : ((0 : Int32)).toNatClampNeg = 0 := rfl
  have e23 : S.1 59 2 - S.1 59 3 = nI (q - min i q) := by rw [h2, h3]; exact sub_nn hu
  have c1 : (nI (q - min i q)).toNatClampNeg = q - min i q := nI_clamp (by omega)
  have c2 : (nI (min i q)).toNatClampNeg = min i q := nI_clamp (by omega)
  refine e_Dealer_forgetUsed (b_Dealer_forgetUsed_0 (fun j hj => ?_) (by rw [h3]; exact nI_pos (by omega)) (by rw [e23]; exact nI_pos (by omega)) (by rw [e23, h3, c1, c2]; omega) (by rw [e23, c1, e0]; omega) ⟨rfl, ?_, ?_, ?_, fun k hk => ?_, fun c k q1 q2 => ?_, fun _ _ => rfl⟩)
  · rw [e23, c1] at hj
    rw [h3, c2, h60 _ (by omega)]
    rcases hQ (min i q + j) (by omega) with z | z <;> rw [z] <;> decide
  · rw [zi_k (by decide), zi_v, e23]
  · exact zi_v
  · rw [zi_k (by decide), zi_k (by decide), zI_c (by decide)]
    exact h4
  · rw [zi_c (by decide), zi_c (by decide), zI_get, if_pos rfl, e23, h3, c1, c2, e0]
    unfold va_cpy
    rw [if_pos (by omega), show min i q + (k - 0) = min i q + k by omega]
    exact h60 _ (by omega)
  · rw [zi_get, if_neg (by omega), zi_get, if_neg (by omega), zI_c q2]
end BGN
