/-! small methods of both readers -/
def cA (S : zS) (i : Nat) (o a p m : Int32) : zS := zi (zi (zi (zi (zi S 4 i o) 5 i a) 6 i p) 7 i m) 3 4 (nI (i + 1))
def mP (T : zS) (j : Nat) (k a c p : Int32) : zS := zi (zi (zi (zi (zi T 78 j k) 79 j a) 80 j c) 81 j p) 73 13 (nI (j + 1))
def mU (T : zS) (m : Nat) (k a p : Int32) : zS := zi (zi (zi (zi (zi T 83 m k) 84 m a) 85 m p) 86 m 0) 73 20 (nI (m + 1))
def cF (S : zS) (f p : Int32) : zS := zi (zi S 3 5 f) 3 6 p
def mF (T : zS) (f p : Int32) : zS := zi (zi T 73 7 f) 73 8 p
/-- what the first k digits at p tell -/
def nv (b : Nat → Int32) (p : Nat) : Nat → Nat
  | 0 => 0
  | k + 1 => 10 * nv b p k + ((b (p + k)).toNatClampNeg - 48)
theorem isd_of {c : Int32} (h : isd c) : ∃ a, 48 ≤ a ∧ a ≤ 57 ∧ c = nI a := by
  have q0 : (48 : Int32).toInt = 48 := rfl
  have q1 := Int32.le_iff_toInt_le.mp h.1
  obtain ⟨j, hj, e⟩ := nI_of2 (x := c) (M := 57) (n := 57) rfl (fun z => by
    have := Int32.lt_iff_toInt_lt.mp z
    have q3 : (0 : Int32).toInt = 0 := rfl
    omega) h.2
  refine ⟨j, ?_, hj, e⟩
  rw [e, nI_toInt (by omega), q0] at q1
  omega
theorem nv_lt {b : Nat → Int32} {p : Nat} : ∀ k, (∀ i, i < k → isd (b (p + i))) → nv b p k < 10 ^ k
  | 0, _ => by show 0 < 10 ^ 0; decide
  | k + 1, h => by
    have ih := nv_lt k (fun i hi => h i (by omega))
    obtain ⟨a, h1, h2, e⟩ := isd_of (h k (by omega))
    have : (b (p + k)).toNatClampNeg - 48 ≤ 9 := by rw [e, nI_clamp (by omega)]; omega
    have e2 : (10 : Nat) ^ (k + 1) = 10 * 10 ^ k := by rw [Nat.pow_succ, Nat.mul_comm]
    show 10 * nv b p k + _ < _
    omega
theorem nv_s {b : Nat → Int32} {p k : Nat} (h : isd (b (p + k))) : (10 * lN (nv b p k)) + ((b (p + k) - 48).toInt64) = lN (nv b p (k + 1)) ∧ (10 * lN (nv b p k) + (b (p + k)).toInt64) - 48 = lN (nv b p (k + 1)) := by
  obtain ⟨a, h1, h2, e⟩ := isd_of h
  have e0 : (10 : Int64) * lN (nv b p k) = lN (10 * nv b p k) := lN_mul 10 _
  have e1 : nv b p (k + 1) = 10 * nv b p k + (a - 48) := by
    show 10 * nv b p k + ((b (p + k)).toNatClampNeg - 48) = _
    rw [e, nI_clamp (by omega)]
  constructor
  · rw [e0, e, show (48 : Int32) = nI 48 from rfl, pk_sub h1, nI_l (by omega), lN_add, e1]
  · rw [e0, e, nI_l (by omega), lN_add, show (48 : Int64) = lN 48 from rfl, lN_sub (by omega), e1]
    congr 1
    omega
section LF
variable {l : Launch} {Gr : zG} {n w : Nat} {d : Nat} {S : zS} {b : Nat → Int32} {t q : Nat}
theorem w_tell {f p : Int32} (h : S.1 3 5 = 0) (hf : ¬ f = 0 := by decide) : zMv l Gr (zc n w) 168 M_Code_tell d [.ref 35, .int f, .int p] S (fun S' => S' = cF S f p) :=
  e_Code_tell (b_Code_tell_0 (fun z => absurd h z) (fun _ => b_Code_tell_7 (fun q => absurd q hf) (b_Code_tell_17 ⟨rfl, rfl⟩)))
theorem w_tellN {f p : Int32} (h : ¬ S.1 3 5 = 0) : zMv l Gr (zc n w) 168 M_Code_tell d [.ref 35, .int f, .int p] S (fun S' => S' = S) :=
  e_Code_tell (b_Code_tell_0 (fun _ => b_Code_tell_17 ⟨rfl, rfl⟩) (fun z => absurd z h))
theorem w_addWith {i : Nat} {o a p m : Int32} (h : S.1 3 5 = 0) (h4 : S.1 3 4 = nI i) (hi : i < 4000) : zMi l Gr (zc n w) 168 M_Code_addWith d [.ref 35, .int o, .int a, .int p, .int m] S (fun v S' => v = nI i ∧ S' = cA S i o a p m) := by
  refine e_Code_addWith (b_Code_addWith_0 (fun z => absurd h z) (fun _ => b_Code_addWith_7 (fun _ => b_Code_addWith_19 (by rw [h4]; exact vp_in_nI hi (by omega)) ⟨_, rfl, h4, ?_⟩) (fun z => ?_)))
  · rw [h4, nI_clamp (by omega), nI_1]
    rfl
  · rw [h4] at z
    exact absurd (nI_lt (a := i) (b := 4000) hi (by omega)) z
theorem w_addWithN {o a p m : Int32} (h : ¬ S.1 3 5 = 0) : zMi l Gr (zc n w) 168 M_Code_addWith d [.ref 35, .int o, .int a, .int p, .int m] S (fun v S' => v = 0 ∧ S' = S) :=
  e_Code_addWith (b_Code_addWith_0 (fun _ => b_Code_addWith_17 ⟨_, rfl, rfl, rfl⟩) (fun z => absurd z h))
theorem w_add (hg : ip_gk (lg_tbl, vwCl, Gr)) {i : Nat} {o a p : Int32} (h : S.1 3 5 = 0) (h4 : S.1 3 4 = nI i) (hi : i < 4000) : zMi l Gr (zc n w) 168 M_Code_add (d + 1) [.ref 35, .int o, .int a, .int p] S (fun v S' => v = nI i ∧ S' = cA S i o a p 0) :=
  e_Code_add (b_Code_add_0 hg (w_addWith h h4 hi) (fun v S' hv => b_Code_add_8 ⟨_, rfl, hv⟩))
theorem w_addN (hg : ip_gk (lg_tbl, vwCl, Gr)) {o a p : Int32} (h : ¬ S.1 3 5 = 0) : zMi l Gr (zc n w) 168 M_Code_add (d + 1) [.ref 35, .int o, .int a, .int p] S (fun v S' => v = 0 ∧ S' = S) :=
  e_Code_add (b_Code_add_0 hg (w_addWithN h) (fun v S' hv => b_Code_add_8 ⟨_, rfl, hv⟩))
theorem wm_fail {f p : Int32} (h : S.1 73 7 = 0) (hf : ¬ f = 0 := by decide) : zMv l Gr (zc n w) 168 M_Mo_fail d [.ref 105, .int f, .int p] S (fun S' => S' = mF S f p) :=
  e_Mo_fail (b_Mo_fail_0 (fun z => absurd h z) (fun _ => b_Mo_fail_7 (fun q => absurd q hf) (b_Mo_fail_17 ⟨rfl, rfl⟩)))
theorem wm_failN {f p : Int32} (h : ¬ S.1 73 7 = 0) : zMv l Gr (zc n w) 168 M_Mo_fail d [.ref 105, .int f, .int p] S (fun S' => S' = S) :=
  e_Mo_fail (b_Mo_fail_0 (fun _ => b_Mo_fail_17 ⟨rfl, rfl⟩) (fun z => absurd z h))
theorem wm_put {j : Nat} {k a c p : Int32} (h : S.1 73 13 = nI j) (hj : j < 12000) : zMi l Gr (zc n w) 168 M_Mo_put d [.ref 105, .int k, .int a, .int c, .int p] S (fun v S' => v = nI j ∧ S' = mP S j k a c p) := by
  refine e_Mo_put (b_Mo_put_0 (fun _ => b_Mo_put_17 (by rw [h]; exact vp_in_nI hj (by omega)) ⟨_, rfl, ?_, ?_⟩) (fun z => ?_))
  · rw [h, nI_1, nI_pred]
  · rw [h, nI_clamp (by omega), nI_1]
    rfl
  · rw [h] at z
    exact absurd ((nI_eq (a := j) (b := 12000) (by omega) (by omega)).mp z) (by omega)
theorem wm_push {m : Nat} {k a p : Int32} (h : S.1 73 20 = nI m) (hm : m < 4100) : zMv l Gr (zc n w) 168 M_Mo_push d [.ref 105, .int k, .int a, .int p] S (fun S' => S' = mU S m k a p) := by
  refine e_Mo_push (b_Mo_push_0 (by rw [h]; exact vp_in_nI hm (by omega)) ⟨rfl, ?_⟩)
  rw [h, nI_clamp (by omega), nI_1]
  rfl
theorem wm_deeper (hg : ip_gk (lg_tbl, vwCl, Gr)) {p : Int32} {dp : Nat} (h : S.1 73 19 = nI dp) (hd : dp < 30) : zMv l Gr (zc n w) 168 M_Mo_deeper (d + 1) [.ref 105, .int p] S (fun S' => S' = zi S 73 19 (nI (dp + 1))) := by
  refine e_Mo_deeper (b_Mo_deeper_0 (fun _ => b_Mo_deeper_15 ⟨rfl, ?_⟩) (fun z => ?_))
  · rw [h, nI_1]
  · rw [h] at z
    exact absurd ((nI_eq (a := dp) (b := 30) (by omega) (by omega)).mp z) (by omega)
theorem wm_deeperF (hg : ip_gk (lg_tbl, vwCl, Gr)) {p : Int32} (h : S.1 73 19 = nI 30) (h7 : S.1 73 7 = 0) : zMv l Gr (zc n w) 168 M_Mo_deeper (d + 1) [.ref 105, .int p] S (fun S' => S' = zi (mF S 3 p) 73 19 (nI 31)) := by
  refine e_Mo_deeper (b_Mo_deeper_0 (fun z => absurd h z) (fun _ => b_Mo_deeper_9 hg (wm_fail h7) (fun S1 e => b_Mo_deeper_15 ⟨rfl, ?_⟩)))
  rw [e]
  unfold mF
  rw [zi_k (by decide), zi_k (by decide), h, nI_1]
theorem wx_num {p e : Nat} (hb : S.1 2 = b) (h4 : S.1 38 4 = nI e) (he : e ≤ 4000) (hp : p ≤ e) (hd : ∀ i, p ≤ i → i < e → isd (b i)) {Q : Option Value → zS → Prop} (k : zW l Gr (zc n w) 168 M_Words_number d 56 [none, some (.long (lN (nv b p (e - p)))), none, none] [] S Q) : ∀ (m r : Nat), r + m = e - p → zW l Gr (zc n w) 168 M_Words_number d 25 [some (.ref 70), some (.long (lN (nv b p r))), none, some (.int (nI (p + r)))] [] S Q
  | 0, r, h => b_Words_number_25 (fun _ => by rw [show r = e - p by omega]; exact k) (fun z => by rw [h4] at z; exact absurd (nI_le (by omega) (by omega)) z)
  | m + 1, r, h => b_Words_number_25 (fun z => by rw [h4] at z; exact absurd z (nI_ge (by omega) (by omega))) (fun _ => b_Words_number_33 (vp_in_nI (by omega) (by omega)) (by
      rw [nI_clamp (by omega), hb, (nv_s (hd (p + r) (by omega) (by omega))).1, show nI (p + r) + Int32.ofInt 1 = nI (p + (r + 1)) from nI_1 _]
      exact wx_num hb h4 he hp hd k m (r + 1) (by omega)))
theorem w_number {p e : Nat} (hb : S.1 2 = b) (h3 : S.1 38 3 = nI p) (h4 : S.1 38 4 = nI e) (he : e ≤ 4000) (hp : p ≤ e) (hd : ∀ i, p ≤ i → i < e → isd (b i)) : zMl l Gr (zc n w) 168 M_Words_number d [.ref 70] S (fun v S' => S' = S ∧ v = if e - p ≤ 10 ∧ nv b p (e - p) ≤ 4294967295 then lN (nv b p (e - p)) else -1) := by
  refine e_Words_number (b_Words_number_0 (fun z => b_Words_number_18 ?_) (fun z => b_Words_number_14 ⟨_, rfl, rfl, ?_⟩))
  · rw [h3, h4, pk_sub hp] at z
    have hz : e - p ≤ 10 := (nI_leI (a := e - p) (b := 10) (by omega) (by omega)).mp z
    have hv : nv b p (e - p) < 2 ^ 63 := by
      have := nv_lt (b := b) (p := p) (e - p) (fun i hi => hd (p + i) (by omega) (by omega))
      have h10 : (10 : Nat) ^ (e - p) ≤ 10 ^ 10 := Nat.pow_le_pow_right (by decide) hz
      have : (10 : Nat) ^ 10 < 2 ^ 63 := by decide
      omega
    rw [h3]
    refine wx_num (p := p) hb h4 he hp hd (b_Words_number_56 (fun y => b_Words_number_70 (b_Words_number_71 ⟨_, rfl, rfl, ?_⟩)) (fun y => b_Words_number_64 (b_Words_number_71 ⟨_, rfl, rfl, ?_⟩))) (e - p) 0 (by omega)
    · rw [lg_cmp_le, show (4294967295 : Int64) = lN 4294967295 from rfl, pk_lLE hv (by decide)] at y
      rw [if_pos ⟨hz, y⟩]
    · rw [lg_cmp_le, show (4294967295 : Int64) = lN 4294967295 from rfl, pk_lLE hv (by decide)] at y
      rw [if_neg (fun x => y x.2)]
  · rw [h3, h4, pk_sub hp] at z
    rw [if_neg]
    exact fun x => z (nI_le (a := e - p) (b := 10) x.1 (by omega))
theorem wx_mnum (hg : ip_gk (lg_tbl, vwCl, Gr)) {p e : Nat} {X1 X3 : Int64} (ht : t ≤ 4000) (he : e ≤ t) (hd : ∀ i, p ≤ i → i < e → isd (b i)) (hstop : ¬ isd (lk b t e)) {Q : Option Value → zS → Prop} : ∀ (m r : Nat) (S : zS), p + r + m = e → mA b t (p + r) S → S.2 73 12 = lN (nv b p (min r 10)) → zW l Gr (zc n w) 168 M_Mo_number (d + 1) 102 [some (.ref 105), some (.long X1), none, some (.long X3), none, some (.int (nI p))] [] (zi (zj S 73 12 (lN (nv b p (min (e - p) 10)))) 73 6 (nI e)) Q → zW l Gr (zc n w) 168 M_Mo_number (d + 1) 36 [some (.ref 105), some (.long X1), none, some (.long X3), none, some (.int (nI p))] [] S Q
  | 0, r, S, h, hm, h12, k => by
    refine b_Mo_number_36 hg (wm_k0 hm) (fun v S' hv => ?_)
    obtain ⟨e1, hv⟩ := hv
    rw [e1, hv]
    refine b_Mo_number_41 hg wm_isDigit (fun v S' hv => ?_)
    obtain ⟨e2, hv⟩ := hv
    rw [e2]
    rw [if_neg (by rw [show p + r = e by omega]; exact hstop)] at hv
    subst hv
    refine b_Mo_number_44 (fun _ => ?_) (fun z => absurd rfl z)
    have : zi (zj S 73 12 (lN (nv b p (min (e - p) 10)))) 73 6 (nI e) = S := by
      apply zS_ext
      · intro c k
        rw [zi_get]
        by_cases y : c = 73 ∧ k = 6
        · rw [if_pos y, y.1, y.2, hm.2.2.1, show p + r = e by omega]
        · rw [if_neg y]
          rfl
      · intro c k
        show (zj S 73 12 _).2 c k = _
        rw [zj_get]
        by_cases y : c = 73 ∧ k = 12
        · rw [if_pos y, y.1, y.2, h12, show e - p = r by omega]
        · rw [if_neg y]
    rw [this] at k
    exact k
  | m + 1, r, S, h, hm, h12, k => by
    have hid : isd (b (p + r)) := hd _ (by omega) (by omega)
    refine b_Mo_number_36 hg (wm_k0 hm) (fun v S' hv => ?_)
    obtain ⟨e1, hv⟩ := hv
    rw [e1, hv]
    refine b_Mo_number_41 hg wm_isDigit (fun v S' hv => ?_)
    obtain ⟨e2, hv⟩ := hv
    rw [e2]
    rw [lk_in (show p + r < t by omega), if_pos hid] at hv
    subst hv
    have nxt : ∀ x : Int64, x = lN (nv b p (min (r + 1) 10)) → zW l Gr (zc n w) 168 M_Mo_number (d + 1) 86 [some (.ref 105), some (.long X1), none, some (.long X3), none, some (.int (nI p))] [.long x, .ref 105] S Q := fun x ex => by
      refine b_Mo_number_86 ?_
      rw [hm.2.2.1, nI_1]
      refine wx_mnum hg ht he hd hstop m (r + 1) _ (by omega) ⟨?_, ?_, zi_v, by omega, ht⟩ ?_ ?_
      · rw [zi_k (by decide)]; exact hm.1
      · intro k hk; rw [zi_c (by decide)]; exact hm.2.1 k hk
      · show (zj S 73 12 x).2 73 12 = _
        rw [zj_get, if_pos ⟨rfl, rfl⟩, ex]
      · have : zi (zj (zi (zj S 73 12 x) 73 6 (nI (p + r + 1))) 73 12 (lN (nv b p (min (e - p) 10)))) 73 6 (nI e) = zi (zj S 73 12 (lN (nv b p (min (e - p) 10)))) 73 6 (nI e) := by
          apply zS_ext
          · intro c k
            simp only [zi_get]
            by_cases y : c = 73 ∧ k = 6
            · simp [y]
            · simp only [if_neg y]
              show (zi (zj S 73 12 x) 73 6 (nI (p + r + 1))).1 c k = S.1 c k
              rw [zi_get, if_neg y]
              rfl
          · intro c k
            show (zj (zi (zj S 73 12 x) 73 6 (nI (p + r + 1))) 73 12 _).2 c k = (zj S 73 12 _).2 c k
            rw [zj_get, zj_get]
            by_cases y : c = 73 ∧ k = 12
            · rw [if_pos y, if_pos y]
            · rw [if_neg y, if_neg y]
              show (zj S 73 12 x).2 c k = _
              rw [zj_get, if_neg y]
        rw [this]
        exact k
    refine b_Mo_number_44 (fun z => absurd z (by decide)) (fun _ => b_Mo_number_47 (fun z => b_Mo_number_82 (nxt _ ?_)) (fun z => b_Mo_number_60 hg (wm_k0 hm) (fun v S' hv => ?_)))
    · rw [hm.2.2.1, pk_sub (by omega)] at z
      have : 10 ≤ p + r - p := (nI_leI (a := 10) (b := p + r - p) (by omega) (by omega)).mp z
      rw [h12, show min r 10 = min (r + 1) 10 by omega]
    · obtain ⟨e3, hv⟩ := hv
      rw [e3, hv]
      rw [hm.2.2.1, pk_sub (by omega)] at z
      have hr : r < 10 := Nat.lt_of_not_le (fun y => z (nI_le (a := 10) (b := p + r - p) (by omega) (by omega)))
      refine b_Mo_number_73 (nxt _ ?_)
      rw [h12, lk_in (show p + r < t by omega), show min r 10 = r by omega, show min (r + 1) 10 = r + 1 by omega]
      exact (nv_s hid).2
/-- number(least, most) at a NUMBER: it fits, or FAULT 2 -/
theorem wm_number (hg : ip_gk (lg_tbl, vwCl, Gr)) {p : Nat} {lo hi : Nat} (hhi : hi ≤ 4294967295) (hlo : lo ≤ hi) (h : mA b t q S) (hgq : gp b t q = p) (h7 : S.1 73 7 = 0) (hd : isd (lk b t p)) : zMv l Gr (zc n w) 168 M_Mo_number (d + 2) [.ref 105, .long (lN lo), .long (lN hi)] S (fun S' =>
    ∃ X : zS, X = zi (zj S 73 12 (lN (nv b p (min (re pd b t p - p) 10)))) 73 6 (nI (re pd b t p)) ∧ ((re pd b t p - p ≤ 10 ∧ lo ≤ nv b p (re pd b t p - p) ∧ nv b p (re pd b t p - p) ≤ hi ∧ S' = X) ∨ (¬ (re pd b t p - p ≤ 10 ∧ lo ≤ nv b p (re pd b t p - p) ∧ nv b p (re pd b t p - p) ≤ hi) ∧ S' = mF X 2 (nI p)))) := by
  have ht := h.2.2.2.2
  have hpt : p ≤ t := by rw [← hgq]; exact gp_le h.2.2.2.1
  have hp1 : p < t := Nat.lt_of_not_le (fun z => by rw [lk_end (by omega)] at hd; exact absurd hd isd_m1)
  have hra := re_all (P := pd) (b := b) (t := t) _ p rfl hpt
  obtain ⟨e, ee⟩ : ∃ e, e = re pd b t p := ⟨_, rfl⟩
  rw [← ee] at hra ⊢
  have hdd : ∀ i, p ≤ i → i < e → isd (b i) := fun i h1 h2 => of_decide_eq_true (hra.2.2.1 i h1 h2)
  have hstop : ¬ isd (lk b t e) := fun z => by
    by_cases y : e < t
    · rw [lk_in y] at z
      exact hra.2.2.2 ⟨y, decide_eq_true z⟩
    · rw [lk_end y] at z
      exact isd_m1 z
  refine e_Mo_number (b_Mo_number_0 hg (wm_gap hg h) (fun S1 e1 => ?_))
  rw [hgq] at e1
  have m1 : mA b t p S1 := by rw [e1]; exact mA_at h hpt
  refine b_Mo_number_4 hg (wm_k0 m1) (fun v S' hv => ?_)
  obtain ⟨e2, hv⟩ := hv
  rw [e2, hv, m1.2.2.1]
  refine b_Mo_number_15 hg wm_isDigit (fun v S' hv => ?_)
  obtain ⟨e3, hv⟩ := hv
  rw [e3]
  rw [if_pos hd] at hv
  subst hv
  refine b_Mo_number_18 (fun _ => b_Mo_number_31 ?_) (fun z => absurd z (by decide))
  have key : zi (zj (zj S1 73 12 0) 73 12 (lN (nv b p (min (e - p) 10)))) 73 6 (nI e) = zi (zj S 73 12 (lN (nv b p (min (e - p) 10)))) 73 6 (nI e) := by
    rw [e1]
    apply zS_ext
    · intro c k
      simp only [zi_get]
      by_cases y : c = 73 ∧ k = 6
      · simp [y]
      · simp only [if_neg y]
        show (zi S 73 6 (nI p)).1 c k = S.1 c k
        rw [zi_get, if_neg y]
    · intro c k
      show (zj (zj (zi S 73 6 (nI p)) 73 12 0) 73 12 (lN (nv b p (min (e - p) 10)))).2 c k = (zj S 73 12 (lN (nv b p (min (e - p) 10)))).2 c k
      rw [zj_get (zj (zi S 73 6 (nI p)) 73 12 0), zj_get S]
      by_cases y : c = 73 ∧ k = 12
      · rw [if_pos y, if_pos y]
      · rw [if_neg y, if_neg y, zj_get, if_neg y]
        rfl
  refine wx_mnum hg ht hra.2.1 hdd hstop (e - p) 0 _ (by omega) ⟨m1.1, m1.2.1, m1.2.2.1, by omega, ht⟩ (by rw [zj_get, if_pos ⟨rfl, rfl⟩]; rfl) ?_
  rw [key]
  obtain ⟨X, eX⟩ : ∃ X, X = zi (zj S 73 12 (lN (nv b p (min (e - p) 10)))) 73 6 (nI e) := ⟨_, rfl⟩
  rw [← eX]
  have x6 : X.1 73 6 = nI e := by rw [eX]; exact zi_v
  have x7 : X.1 73 7 = 0 := by rw [eX, zi_k (by decide)]; exact h7
  have x12 : X.2 73 12 = lN (nv b p (min (e - p) 10)) := by
    rw [eX]
    show (zj S 73 12 (lN (nv b p (min (e - p) 10)))).2 73 12 = lN (nv b p (min (e - p) 10))
    rw [zj_get S, if_pos ⟨rfl, rfl⟩]
  have bad : ¬ (e - p ≤ 10 ∧ lo ≤ nv b p (e - p) ∧ nv b p (e - p) ≤ hi) → zW l Gr (zc n w) 168 M_Mo_number (d + 2) 143 [some (.ref 105), none, none, none, none, some (.int (nI p))] [] X (fun v S' => v = none ∧ ∃ Y : zS, Y = X ∧ ((e - p ≤ 10 ∧ lo ≤ nv b p (e - p) ∧ nv b p (e - p) ≤ hi ∧ S' = Y) ∨ (¬ (e - p ≤ 10 ∧ lo ≤ nv b p (e - p) ∧ nv b p (e - p) ≤ hi) ∧ S' = mF Y 2 (nI p)))) := fun y =>
    b_Mo_number_143 hg (wm_fail x7) (fun S2 e2 => b_Mo_number_150 ⟨rfl, X, rfl, Or.inr ⟨y, e2⟩⟩)
  have hv10 : nv b p (min (e - p) 10) < 2 ^ 63 := by
    have h1 := nv_lt (b := b) (p := p) (min (e - p) 10) (fun i hi => hdd (p + i) (by omega) (by omega))
    have h10 : (10 : Nat) ^ (min (e - p) 10) ≤ 10 ^ 10 := Nat.pow_le_pow_right (by decide) (by omega)
    have : (10 : Nat) ^ 10 < 2 ^ 63 := by decide
    omega
  refine b_Mo_number_102 (fun z => bad ?_) (fun z => ?_)
  · rw [x6, pk_sub hra.1] at z
    have := (nI_ltI (a := 10) (b := e - p) (by omega) (by omega)).mp z
    exact fun y => by omega
  · rw [x6, pk_sub hra.1] at z
    have h10 : e - p ≤ 10 := Nat.le_of_not_lt (fun y => z (nI_lt (a := 10) (b := e - p) y (by omega)))
    have em : min (e - p) 10 = e - p := by omega
    rw [em] at x12 hv10
    refine b_Mo_number_114 (fun z2 => bad ?_) (fun z2 => b_Mo_number_125 (fun z3 => bad ?_) (fun z3 => b_Mo_number_134 (fun z4 => b_Mo_number_150 ⟨rfl, X, rfl, Or.inl ⟨h10, ?_, ?_, rfl⟩⟩) (fun z4 => bad ?_)))
    · rw [x12, lg_cmp_gt, show (4294967295 : Int64) = lN 4294967295 from rfl, pk_lLT (by decide) hv10] at z2
      exact fun y => by omega
    · rw [x12, lg_cmp_lt, pk_lLT hv10 (by omega)] at z3
      exact fun y => by omega
    · rw [x12, lg_cmp_lt, pk_lLT hv10 (by omega)] at z3
      omega
    · rw [x12, lg_cmp_le, pk_lLE hv10 (by omega)] at z4
      exact z4
    · rw [x12, lg_cmp_le, pk_lLE hv10 (by omega)] at z4
      exact fun y => z4 y.2.2
end LF
