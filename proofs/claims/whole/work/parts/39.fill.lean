def zfill (S : zS) (c : Nat) (v : Int32) (i : Nat) : zS := zI S c (fun k => if k < i then v else S.1 c k)
theorem zfill_0 (S : zS) (c : Nat) (v : Int32) : zfill S c v 0 = S := by
  unfold zfill zI
  refine Prod.ext ?_ rfl
  funext q
  by_cases h : q = c
  · subst h; simp
  · simp [h]
theorem zfill_s (S : zS) (c : Nat) (v : Int32) (i : Nat) : zi (zfill S c v i) c i v = zfill S c v (i + 1) := by
  unfold zfill zi zI upd
  refine Prod.ext ?_ rfl
  funext q
  by_cases h : q = c
  · subst h
    funext k
    simp only [if_pos]
    by_cases h1 : k = i
    · subst h1; simp
    · by_cases h2 : k < i
      · simp [h1, h2, Nat.lt_succ_of_lt h2]
      · simp [h1, h2, show ¬ k < i + 1 by omega]
  · simp [h]
section FILL
variable {l : Launch} {Gr : zG} {n w : Nat} {d : Nat} {S : zS}
theorem fl_33 (v : Int32) {Q : Option Value → zS → Prop} (k : Q none (zfill S 1 v.toInt8.toInt32 20)) : ∀ (j i : Nat), i + j = 20 → zW l Gr (zc n w) 168 M_Arrays_fill_52d d 5 [some (.ref 33), some (.int v), some (.int (nI i)), some (.int 20)] [] (zfill S 1 v.toInt8.toInt32 i) Q
  | 0, i, h => b_Arrays_fill_52d_r33_5 (fun _ => b_Arrays_fill_52d_r33_20 (by rw [show i = 20 by omega]; exact k)) (fun q => absurd (nI_le (a := 20) (b := i) (by omega) (by omega)) q)
  | j + 1, i, h => b_Arrays_fill_52d_r33_5 (fun q => absurd q (nI_ge (a := i) (b := 20) (by omega) (by omega))) (fun _ => b_Arrays_fill_52d_r33_10 (vp_in_nI (by omega) (by omega)) (by
      rw [nI_clamp (by omega), zfill_s, show nI i + Int32.ofInt 1 = nI (i + 1) from nI_add i 1]
      exact fl_33 v k j (i + 1) (by omega)))
theorem m_fill_33 (v : Int32) : zMv l Gr (zc n w) 168 M_Arrays_fill_52d d [.ref 33, .int v] S (fun S' => S' = zfill S 1 v.toInt8.toInt32 20) :=
  e_Arrays_fill_52d_r33 (b_Arrays_fill_52d_r33_0 (by
    have := fl_33 (l := l) (Gr := Gr) (n := n) (w := w) (d := d) (S := S) v (Q := fun v' S' => v' = none ∧ S' = zfill S 1 v.toInt8.toInt32 20) ⟨rfl, rfl⟩ 20 0 rfl
    rw [zfill_0] at this
    exact this))
theorem fl_55 (hb : n ≤ 100000) (v : Int32) {Q : Option Value → zS → Prop} (k : Q none (zfill S 23 v n)) : ∀ (j i : Nat), i + j = n → zW l Gr (zc n w) 168 M_Arrays_fill_78e d 5 [some (.ref 55), some (.int v), some (.int (nI i)), some (.int (nI n))] [] (zfill S 23 v i) Q
  | 0, i, h => b_Arrays_fill_78e_r55_5 (fun _ => b_Arrays_fill_78e_r55_20 (by rw [show i = n by omega]; exact k)) (fun q => absurd (nI_le (a := n) (b := i) (by omega) (by omega)) q)
  | j + 1, i, h => b_Arrays_fill_78e_r55_5 (fun q => absurd q (nI_ge (a := i) (b := n) (by omega) (by omega))) (fun _ => b_Arrays_fill_78e_r55_10 (vp_in_nI (by omega) (by omega)) (by
      rw [nI_clamp (by omega), zfill_s, show nI i + Int32.ofInt 1 = nI (i + 1) from nI_add i 1]
      exact fl_55 hb v k j (i + 1) (by omega)))
theorem m_fill_55 (hb : n ≤ 100000) (v : Int32) : zMv l Gr (zc n w) 168 M_Arrays_fill_78e d [.ref 55, .int v] S (fun S' => S' = zfill S 23 v n) :=
  e_Arrays_fill_78e_r55 (b_Arrays_fill_78e_r55_0 (by
    have := fl_55 (l := l) (Gr := Gr) (n := n) (w := w) (d := d) (S := S) hb v (Q := fun v' S' => v' = none ∧ S' = zfill S 23 v n) ⟨rfl, rfl⟩ n 0 (by omega)
    rw [zfill_0] at this
    exact this))
theorem fl_62 (v : Int32) {Q : Option Value → zS → Prop} (k : Q none (zfill S 30 v 2003)) : ∀ (j i : Nat), i + j = 2003 → zW l Gr (zc n w) 168 M_Arrays_fill_78e d 5 [some (.ref 62), some (.int v), some (.int (nI i)), some (.int 2003)] [] (zfill S 30 v i) Q
  | 0, i, h => b_Arrays_fill_78e_r62_5 (fun _ => b_Arrays_fill_78e_r62_20 (by rw [show i = 2003 by omega]; exact k)) (fun q => absurd (nI_le (a := 2003) (b := i) (by omega) (by omega)) q)
  | j + 1, i, h => b_Arrays_fill_78e_r62_5 (fun q => absurd q (nI_ge (a := i) (b := 2003) (by omega) (by omega))) (fun _ => b_Arrays_fill_78e_r62_10 (vp_in_nI (by omega) (by omega)) (by
      rw [nI_clamp (by omega), zfill_s, show nI i + Int32.ofInt 1 = nI (i + 1) from nI_add i 1]
      exact fl_62 v k j (i + 1) (by omega)))
theorem m_fill_62 (v : Int32) : zMv l Gr (zc n w) 168 M_Arrays_fill_78e d [.ref 62, .int v] S (fun S' => S' = zfill S 30 v 2003) :=
  e_Arrays_fill_78e_r62 (b_Arrays_fill_78e_r62_0 (by
    have := fl_62 (l := l) (Gr := Gr) (n := n) (w := w) (d := d) (S := S) v (Q := fun v' S' => v' = none ∧ S' = zfill S 30 v 2003) ⟨rfl, rfl⟩ 2003 0 (by omega)
    rw [zfill_0] at this
    exact this))
theorem fl_90 (hb : (256 * w) ≤ 100000) (v : Int32) {Q : Option Value → zS → Prop} (k : Q none (zfill S 58 v (256 * w))) : ∀ (j i : Nat), i + j = (256 * w) → zW l Gr (zc n w) 168 M_Arrays_fill_78e d 5 [some (.ref 90), some (.int v), some (.int (nI i)), some (.int (nI (256 * w)))] [] (zfill S 58 v i) Q
  | 0, i, h => b_Arrays_fill_78e_r90_5 (fun _ => b_Arrays_fill_78e_r90_20 (by rw [show i = (256 * w) by omega]; exact k)) (fun q => absurd (nI_le (a := (256 * w)) (b := i) (by omega) (by omega)) q)
  | j + 1, i, h => b_Arrays_fill_78e_r90_5 (fun q => absurd q (nI_ge (a := i) (b := (256 * w)) (by omega) (by omega))) (fun _ => b_Arrays_fill_78e_r90_10 (vp_in_nI (by omega) (by omega)) (by
      rw [nI_clamp (by omega), zfill_s, show nI i + Int32.ofInt 1 = nI (i + 1) from nI_add i 1]
      exact fl_90 hb v k j (i + 1) (by omega)))
theorem m_fill_90 (hb : (256 * w) ≤ 100000) (v : Int32) : zMv l Gr (zc n w) 168 M_Arrays_fill_78e d [.ref 90, .int v] S (fun S' => S' = zfill S 58 v (256 * w)) :=
  e_Arrays_fill_78e_r90 (b_Arrays_fill_78e_r90_0 (by
    have := fl_90 (l := l) (Gr := Gr) (n := n) (w := w) (d := d) (S := S) hb v (Q := fun v' S' => v' = none ∧ S' = zfill S 58 v (256 * w)) ⟨rfl, rfl⟩ (256 * w) 0 (by omega)
    rw [zfill_0] at this
    exact this))
end FILL
