theorem msk_l {w v : Nat} (hw : w ≤ 32) : lN v &&& (((1 : Int64) <<< ((nI w).toInt64 &&& 63)) - 1) = lN (v % 2 ^ w) := by
  have h : ((1 : Int64) <<< ((nI w).toInt64 &&& 63)) - 1 = lN (2 ^ w - 1) := (show ∀ w, w < 33 → ((1 : Int64) <<< ((nI w).toInt64 &&& 63)) - 1 = lN (2 ^ w - 1) by decide +kernel) w (by omega)
  rw [h, ← Nat.and_two_pow_sub_one_eq_mod]
  apply Int64.toBitVec_inj.mp
  rw [Int64.toBitVec_and]
  apply BitVec.eq_of_toNat_eq
  rw [BitVec.toNat_and]
  show (v % 2 ^ 64) &&& ((2 ^ w - 1) % 2 ^ 64) = (v &&& (2 ^ w - 1)) % 2 ^ 64
  rw [Nat.and_mod_two_pow]
section TO2
variable {l : Launch} {Gr : zG} {n w : Nat} {d : Nat} {b : Nat → Int32} {t q p j dp m N : Nat} {T : zS} {Q : Option Value → zS → Prop}
/-- a NUMBER, read into X -/
def tNum (w : Nat) (X : zS) (p j : Nat) : zS := zj (mP (mP X j 1 0 0 (nI p)) (j + 1) 2 0 0 (nI p)) 82 (j + 1) (X.2 73 12 &&& (((1 : Int64) <<< ((nI w).toInt64 &&& 63)) - 1))
def tNr (b : Nat → Int32) (t : Nat) (T : zS) (p : Nat) : zS := zi (zj (zi T 73 6 (nI p)) 73 12 (lN (nv b p (min (re pd b t p - p) 10)))) 73 6 (nI (re pd b t p))
theorem to_num (hg : ip_gk (lg_tbl, vwCl, Gr)) (htx : ∀ k, k < t → tx (b k)) (h : MC b t q j dp m N T) (hgq : gp b t q = p) (hk : tk b t p = 2) (hj : j + 2 ≤ 12000) : zMi l Gr (zc n w) 168 M_Mo_takeOperand (d + 7) [.ref 105] T (fun v T' => v = 1 ∧ T' = if re pd b t p - p ≤ 10 ∧ nv b p (re pd b t p - p) ≤ 4294967295 then tNum w (tNr b t T p) p j else tNum w (mF (tNr b t T p) 2 (nI p)) p j) := by
  have h1 := MC_p h hgq
  have hp : p ≤ t := h1.1.2.2.2.1
  have hr := re_le (P := pd) (b := b) hp
  refine e_Mo_takeOperand (to_57 hg htx h hgq (fun y => ?_) (fun _ => to_108 hg htx h1 (fun y => ?_) (fun _ => to_158 hg htx hp (fun _ => ?_) (fun y => absurd hk y))))
  · rw [y] at hk; exact absurd hk (by decide)
  · rw [hk] at y; exact absurd y (by decide)
  have hgp : gp b t p = p := by rw [← hgq]; exact gp_gp h.1.2.2.2.1
  refine b_Mo_takeOperand_115 hg (wm_number (lo := 0) (hi := 4294967295) hg (by omega) (by omega) h1.1 hgp h1.2.1 ((tk_d htx hp).mpr hk)) (fun T1 hT => ?_)
  obtain ⟨X, eX, hX⟩ := hT
  have fin : ∀ Y : zS, Y.1 73 13 = nI j → zW l Gr (zc n w) 168 M_Mo_takeOperand (d + 7) 123 [some (.ref 105), some (.int (nI p)), none, none, none, none] [] Y (fun v S' => ∃ x, v = some (.int x) ∧ (x = 0 ∨ x = 1) ∧ x = 1 ∧ S' = tNum w Y p j) := fun Y h13 => by
    refine b_Mo_takeOperand_123 hg (wm_put h13 (by omega)) (fun v T2 hv => ?_)
    rw [hv.2]
    refine b_Mo_takeOperand_131 hg (wm_put (j := j + 1) mP_13 (by omega)) (fun v T3 hv3 => ?_)
    rw [hv3.2, hv3.1]
    refine b_Mo_takeOperand_140 (vp_in_nI (by omega) (by omega)) ⟨_, rfl, Or.inr rfl, rfl, ?_⟩
    rw [nI_clamp (by omega)]
    rfl
  have x13 : X.1 73 13 = nI j := by rw [eX, zi_k (by decide)]; exact h1.2.2.1
  rcases hX with ⟨c1, c2, c3, eT⟩ | ⟨c1, eT⟩
  · rw [eT]
    refine z_imp (fin X x13) (fun v S' hv => ?_)
    obtain ⟨x, e1, e2, e3, e4⟩ := hv
    exact ⟨x, e1, e2, e3, by rw [if_pos ⟨c1, c3⟩, e4, eX]; rfl⟩
  · rw [eT]
    refine z_imp (fin (mF X 2 (nI p)) (by unfold mF; rw [zi_k (by decide), zi_k (by decide)]; exact x13)) (fun v S' hv => ?_)
    obtain ⟨x, e1, e2, e3, e4⟩ := hv
    exact ⟨x, e1, e2, e3, by rw [if_neg (fun z => c1 ⟨z.1, Nat.zero_le _, z.2⟩), e4, eX]; rfl⟩
/-- true, false -/
def tTru (b : Nat → Int32) (t : Nat) (T : zS) (p j : Nat) (k : Int32) : zS := zi (mP (mP (zi T 73 6 (nI p)) j 1 0 0 (nI p)) (j + 1) k 0 0 (nI p)) 73 6 (nI (te b t p))
theorem to_tru (hg : ip_gk (lg_tbl, vwCl, Gr)) (ho : ip_old (lg_tbl, vwCl, Gr)) (htx : ∀ k, k < t → tx (b k)) (h : MC b t q j dp m N T) (hgq : gp b t q = p) (hk : tk b t p = 211 ∨ tk b t p = 212) (hj : j + 2 ≤ 12000) : zMi l Gr (zc n w) 168 M_Mo_takeOperand (d + 7) [.ref 105] T (fun v T' => v = 1 ∧ T' = tTru b t T p j (if tk b t p = 211 then 3 else 4)) := by
  have h1 := MC_p h hgq
  have hp : p ≤ t := h1.1.2.2.2.1
  have big : 127 < tk b t p := by rcases hk with y | y <;> (rw [y]; decide)
  refine e_Mo_takeOperand (to_57 hg htx h hgq (fun y => ?_) (fun _ => to_108 hg htx h1 (fun y => ?_) (fun _ => to_158 hg htx hp (fun y => ?_) (fun _ => to_220 hg ho htx h1 (fun _ => ?_) (fun y => absurd hk y)))))
  · rw [y] at hk; exact absurd hk (by decide)
  · rcases y with y | y | y <;> (rw [y] at big; exact absurd big (by decide))
  · rw [y] at hk; exact absurd hk (by decide)
  have h2 := MC_mP (x1 := 1) (x2 := 0) (x3 := 0) (x4 := nI p) h1
  refine b_Mo_takeOperand_178 hg (wm_put h1.2.2.1 (by omega)) (fun v T1 hv => ?_)
  rw [hv.2]
  have last : ∀ k : Int32, k = (if tk b t p = 211 then 3 else 4) → zW l Gr (zc n w) 168 M_Mo_takeOperand (d + 7) 203 [some (.ref 105), some (.int (nI p)), none, none, none, none] [.int k, .ref 105] (mP (zi T 73 6 (nI p)) j 1 0 0 (nI p)) (fun v S' => ∃ x, v = some (.int x) ∧ (x = 0 ∨ x = 1) ∧ x = 1 ∧ S' = tTru b t T p j (if tk b t p = 211 then 3 else 4)) := fun k ek => by
    rw [ek]
    refine b_Mo_takeOperand_203 hg (wm_put h2.2.2.1 (by omega)) (fun v T2 hv => ?_)
    rw [hv.2]
    have h3 := MC_mP (x1 := if tk b t p = 211 then 3 else 4) (x2 := 0) (x3 := 0) (x4 := nI p) h2
    refine b_Mo_takeOperand_209 hg (wm_wordEnd hg h3.1) (fun v T3 hv => ?_)
    rw [hv.1, hv.2]
    refine b_Mo_takeOperand_215 ⟨_, rfl, Or.inr rfl, rfl, ?_⟩
    rw [← (te_n htx hp (Or.inr big)).1]
    rfl
  refine b_Mo_takeOperand_186 hg ho (wm_isW11 hg ho h2.1) (fun v T2 hv => ?_)
  rw [hv.1, hv.2]
  by_cases z : wd b p (we b t p) = kw11
  · rw [if_pos z]
    exact b_Mo_takeOperand_195 (fun y => absurd y (by decide)) (fun _ => b_Mo_takeOperand_198 (last 3 (by rw [if_pos ((tk_w htx hp (fun _ => wk_11) (by decide) (by decide)).mp z)])))
  · rw [if_neg z]
    exact b_Mo_takeOperand_195 (fun _ => b_Mo_takeOperand_202 (last 4 (by rw [if_neg (fun y => z ((tk_w htx hp (fun _ => wk_11) (by decide) (by decide)).mpr y))]))) (fun y => absurd rfl y)
theorem wd_len3 (hp : p ≤ t) (htx : ∀ k, k < t → tx (b k)) (hk : tk b t p = 209 ∨ tk b t p = 210) : te b t p = p + 3 := by
  have big : 127 < tk b t p := by rcases hk with y | y <;> (rw [y]; decide)
  obtain ⟨e1, e2, -⟩ := te_n htx hp (Or.inr big)
  rw [e1]
  have : (wd b p (we b t p)).length = 3 := by
    rcases hk with y | y
    · rw [(tk_w htx hp (fun _ => wk_9) (by decide) (by decide)).mpr y]; rfl
    · rw [(tk_w htx hp (fun _ => wk_10) (by decide) (by decide)).mpr y]; rfl
  rw [wd_len] at this
  omega
/-- int( and bit( : p1 is the next word's place -/
def tCv (T : zS) (p p1 j dp m : Nat) (k : Int32) : zS := mU (zi (zi (zi (zi (mP (zi T 73 6 (nI p)) j 1 0 0 (nI p)) 73 6 (nI (p + 3))) 73 6 (nI p1)) 73 6 (nI (p1 + 1))) 73 19 (nI (dp + 1))) m k 0 (nI p)
def tCv1 (T : zS) (p p1 j m : Nat) (k : Int32) : zS := mU (mF (zi (zi (zi (mP (zi T 73 6 (nI p)) j 1 0 0 (nI p)) 73 6 (nI (p + 3))) 73 6 (nI p1)) 73 6 (nI p1)) 1 (nI p1)) m k 0 (nI p)
def tCv3 (T : zS) (p p1 j m : Nat) (k : Int32) : zS := mU (zi (mF (zi (zi (zi (mP (zi T 73 6 (nI p)) j 1 0 0 (nI p)) 73 6 (nI (p + 3))) 73 6 (nI p1)) 73 6 (nI (p1 + 1))) 3 (nI p1)) 73 19 (nI 31)) m k 0 (nI p)
theorem to_cv (hg : ip_gk (lg_tbl, vwCl, Gr)) (ho : ip_old (lg_tbl, vwCl, Gr)) {p1 : Nat} (htx : ∀ k, k < t → tx (b k)) (h : MC b t q j dp m N T) (hgq : gp b t q = p) (hk : tk b t p = 209 ∨ tk b t p = 210) (hp1 : gp b t (te b t p) = p1) (hj : j < 12000) (hm : m < 4100) (hd : dp ≤ 30) : zMi l Gr (zc n w) 168 M_Mo_takeOperand (d + 7) [.ref 105] T (fun v T' => v = 0 ∧ T' = if tk b t p1 = 40 then (if dp < 30 then tCv T p p1 j dp m (if tk b t p = 209 then 8 else 9) else tCv3 T p p1 j m (if tk b t p = 209 then 8 else 9)) else tCv1 T p p1 j m (if tk b t p = 209 then 8 else 9)) := by
  have h1 := MC_p h hgq
  have hp : p ≤ t := h1.1.2.2.2.1
  have big : 127 < tk b t p := by rcases hk with y | y <;> (rw [y]; decide)
  have e3 := wd_len3 hp htx hk
  have hte := te_le (b := b) hp
  rw [e3] at hp1 hte
  have hp1t : p1 ≤ t := by rw [← hp1]; exact gp_le hte
  refine e_Mo_takeOperand (to_57 hg htx h hgq (fun y => ?_) (fun _ => to_108 hg htx h1 (fun y => ?_) (fun _ => to_158 hg htx hp (fun y => ?_) (fun _ => to_220 hg ho htx h1 (fun y => ?_) (fun _ => to_316 hg ho htx h1 (fun _ => ?_) (fun y => absurd hk y))))))
  · rw [y] at hk; exact absurd hk (by decide)
  · rcases y with y | y | y <;> (rw [y] at big; exact absurd big (by decide))
  · rw [y] at hk; exact absurd hk (by decide)
  · rcases y with y | y <;> (rw [y] at hk; exact absurd hk (by decide))
  refine b_Mo_takeOperand_240 hg ho (wm_isW9 hg ho h1.1) (fun v T2 hv => ?_)
  have ev : v = (if tk b t p = 209 then 1 else 0) := by
    rw [hv.2]
    by_cases z : wd b p (we b t p) = kw9
    · rw [if_pos z, if_pos ((tk_w htx hp (fun _ => wk_9) (by decide) (by decide)).mp z)]
    · rw [if_neg z, if_neg (fun y => z ((tk_w htx hp (fun _ => wk_9) (by decide) (by decide)).mpr y))]
  rw [hv.1, ev]
  refine b_Mo_takeOperand_247 hg (wm_put h1.2.2.1 hj) (fun v T3 hv => ?_)
  rw [hv.2]
  have h2 := MC_mP (x1 := 1) (x2 := 0) (x3 := 0) (x4 := nI p) h1
  have e6 : (mP (zi T 73 6 (nI p)) j 1 0 0 (nI p)).1 73 6 + 3 = nI (p + 3) := by rw [h2.1.2.2.1]; exact nI_add p 3
  have h3 := MC_at (q' := p + 3) h2 hte
  refine b_Mo_takeOperand_256 hg (by rw [e6]; exact wm_gap hg h3.1) (fun T4 e4 => ?_)
  rw [hp1] at e4
  have h4 := MC_at (q' := p1) h3 hp1t
  rw [e4]
  have hgp : gp b t p1 = p1 := by rw [← hp1]; exact gp_gp hte
  have fin : ∀ Y : zS, Y.1 73 20 = nI m → ∀ Z : zS, mU Y m (if tk b t p = 209 then 8 else 9) 0 (nI p) = Z → zW l Gr (zc n w) 168 M_Mo_takeOperand (d + 7) 297 [some (.ref 105), some (.int (nI p)), none, some (.int (if tk b t p = 209 then 1 else 0)), none, none] [] Y (fun v S' => ∃ x, v = some (.int x) ∧ (x = 0 ∨ x = 1) ∧ x = 0 ∧ S' = Z) := fun Y hY Z hZ => by
    by_cases z : tk b t p = 209
    · rw [if_pos z] at hZ ⊢
      refine b_Mo_takeOperand_297 (fun y => absurd y (by decide)) (fun _ => b_Mo_takeOperand_302 (b_Mo_takeOperand_309 hg (wm_push hY hm) (fun T5 e5 => b_Mo_takeOperand_314 ⟨_, rfl, Or.inl rfl, rfl, by rw [e5, hZ]⟩)))
    · rw [if_neg z] at hZ ⊢
      refine b_Mo_takeOperand_297 (fun _ => b_Mo_takeOperand_307 (b_Mo_takeOperand_309 hg (wm_push hY hm) (fun T5 e5 => b_Mo_takeOperand_314 ⟨_, rfl, Or.inl rfl, rfl, by rw [e5, hZ]⟩))) (fun y => absurd rfl y)
  by_cases z : tk b t p1 = 40
  · rw [if_pos z]
    have h5 := MC_at (q' := p1 + 1) h4 (by have := (te_s htx hp1t (c := 40) (by decide) (by decide) (by decide) z).2; omega)
    refine b_Mo_takeOperand_272 hg (wm_sign hg h4.1 hgp ((tk_sg htx hp1t (by decide) (by decide) (by decide)).mpr z)) (fun T5 e5 => ?_)
    rw [e5, h4.1.2.2.1]
    by_cases zd : dp < 30
    · rw [if_pos zd]
      refine b_Mo_takeOperand_284 (fun y => absurd h5.2.1 y) (fun _ => b_Mo_takeOperand_291 hg (wm_deeper hg h5.2.2.2.1 zd) (fun T6 e6 => ?_))
      rw [e6]
      exact fin _ (MC_dp (d' := dp + 1) h5).2.2.2.2.1 _ rfl
    · rw [if_neg zd]
      have e30 : dp = 30 := by omega
      subst e30
      refine b_Mo_takeOperand_284 (fun y => absurd h5.2.1 y) (fun _ => b_Mo_takeOperand_291 hg (wm_deeperF hg h5.2.2.2.1 h5.2.1) (fun T6 e6 => ?_))
      rw [e6]
      refine fin _ ?_ _ rfl
      unfold mF
      rw [zi_k (by decide), zi_k (by decide), zi_k (by decide)]
      exact h5.2.2.2.2.1
  · rw [if_neg z]
    refine b_Mo_takeOperand_272 hg (wm_signF hg h4.1 hgp h4.2.1 (fun y => z ((tk_sg htx hp1t (by decide) (by decide) (by decide)).mp y))) (fun T5 e5 => ?_)
    rw [e5]
    refine b_Mo_takeOperand_284 (fun _ => fin _ ?_ _ rfl) (fun y => ?_)
    · unfold mF
      rw [zi_k (by decide), zi_k (by decide), zi_k (by decide)]
      exact h4.2.2.2.2.1
    · unfold mF at y
      rw [zi_k (by decide), zi_v] at y
      exact absurd y (by decide)
/-- no operand stands there, or too long a NAME -/
theorem to_bad (hg : ip_gk (lg_tbl, vwCl, Gr)) (ho : ip_old (lg_tbl, vwCl, Gr)) (htx : ∀ k, k < t → tx (b k)) (h : MC b t q j dp m N T) (hgq : gp b t q = p) (n40 : ¬ tk b t p = 40) (nu : ¬ (tk b t p = 45 ∨ tk b t p = 126 ∨ tk b t p = 33)) (n2 : ¬ tk b t p = 2) (nt : ¬ (tk b t p = 211 ∨ tk b t p = 212)) (nc : ¬ (tk b t p = 209 ∨ tk b t p = 210)) (hbad : ¬ tk b t p = 1 ∨ (tk b t p = 1 ∧ ¬ te b t p - p ≤ 16)) : zMi l Gr (zc n w) 168 M_Mo_takeOperand (d + 7) [.ref 105] T (fun v T' => v = 1 ∧ T' = mF (zi (zi T 73 6 (nI p)) 73 6 (nI p)) (if tk b t p = 1 then 2 else 1) (nI p)) := by
  have h1 := MC_p h hgq
  have hp : p ≤ t := h1.1.2.2.2.1
  have hgp : gp b t p = p := by rw [← hgq]; exact gp_gp h.1.2.2.2.1
  refine e_Mo_takeOperand (to_57 hg htx h hgq (fun y => absurd y n40) (fun _ => to_108 hg htx h1 (fun y => absurd y nu) (fun _ => to_158 hg htx hp (fun y => absurd y n2) (fun _ => to_220 hg ho htx h1 (fun y => absurd y nt) (fun _ => to_316 hg ho htx h1 (fun y => absurd y nc) (fun _ => ?_))))))
  refine b_Mo_takeOperand_316 hg (wm_nameF hg ho htx h1.1 hgp h1.2.1 hbad) (fun v T2 hv => ?_)
  rw [hv.2]
  refine b_Mo_takeOperand_320 (fun y => ?_) (fun _ => b_Mo_takeOperand_328 ⟨_, rfl, Or.inr rfl, rfl, rfl⟩)
  exfalso
  unfold mF at y
  rw [zi_k (by decide), zi_v] at y
  by_cases z : tk b t p = 1
  · rw [if_pos z] at y; exact absurd y (by decide)
  · rw [if_neg z] at y; exact absurd y (by decide)
/-- a NAME; p1 is the next word's place; X what name() leaves, v the NAME's number -/
def tNam (X : zS) (p p1 j : Nat) (v : Int32) : zS := mP (zi (mP X j 1 0 0 (nI p)) 73 6 (nI p1)) (j + 1) 5 v 0 (nI p)
def tIdx (X : zS) (p p1 j dp m : Nat) (v : Int32) : zS := mU (mP (zi (zi (zi (mP X j 1 0 0 (nI p)) 73 6 (nI p1)) 73 19 (nI (dp + 1))) 73 6 (nI (p1 + 1))) (j + 1) 6 v 0 (nI p)) m 6 v (nI p)
def tIdxF (X : zS) (p p1 j m : Nat) (v : Int32) : zS := mU (mP (zi (zi (mF (zi (mP X j 1 0 0 (nI p)) 73 6 (nI p1)) 3 (nI p1)) 73 19 (nI 31)) 73 6 (nI (p1 + 1))) (j + 1) 6 v 0 (nI p)) m 6 v (nI p)
def tCal (X : zS) (p p1 p2 j dp m : Nat) (v : Int32) : zS := zi (mU (mP (zi (zi (zi (mP X j 1 0 0 (nI p)) 73 6 (nI p1)) 73 19 (nI (dp + 1))) 73 6 (nI (p1 + 1))) (j + 1) 8 v 0 (nI p)) m 7 (nI (j + 1)) (nI p)) 73 6 (nI p2)
def tCalF (X : zS) (p p1 p2 j m : Nat) (v : Int32) : zS := zi (mU (mP (zi (zi (mF (zi (mP X j 1 0 0 (nI p)) 73 6 (nI p1)) 3 (nI p1)) 73 19 (nI 31)) 73 6 (nI (p1 + 1))) (j + 1) 8 v 0 (nI p)) m 7 (nI (j + 1)) (nI p)) 73 6 (nI p2)
theorem to_name (hg : ip_gk (lg_tbl, vwCl, Gr)) (ho : ip_old (lg_tbl, vwCl, Gr)) {p1 p2 : Nat} (htx : ∀ k, k < t → tx (b k)) (h : MC b t q j dp m N T) (hgq : gp b t q = p) (hk : tk b t p = 1) (hsz : te b t p - p ≤ 16) (hp1 : gp b t (te b t p) = p1) (hp2 : gp b t (p1 + 1) = p2) (hj : j + 2 ≤ 12000) (hm : m < 4100) (hd : dp ≤ 30) (hN : N < 2000) : zMi l Gr (zc n w) 168 M_Mo_takeOperand (d + 9) [.ref 105] T (fun x T' => ∃ v X, nid b t X v p ∧ nmP b t (zi T 73 6 (nI p)) X N (te b t p) ∧
    ((tk b t p1 = 91 ∧ x = 0 ∧ T' = if dp < 30 then tIdx X p p1 j dp m (nI v) else tIdxF X p p1 j m (nI v)) ∨
     (tk b t p1 = 40 ∧ x = (if tk b t p2 = 41 then 1 else 0) ∧ T' = if dp < 30 then tCal X p p1 p2 j dp m (nI v) else tCalF X p p1 p2 j m (nI v)) ∨
     (¬ tk b t p1 = 91 ∧ ¬ tk b t p1 = 40 ∧ x = 1 ∧ T' = tNam X p p1 j (nI v)))) := by
  have h1 := MC_p h hgq
  have hp : p ≤ t := h1.1.2.2.2.1
  have hgp : gp b t p = p := by rw [← hgq]; exact gp_gp h.1.2.2.2.1
  have hte := te_le (b := b) hp
  have hp1t : p1 ≤ t := by rw [← hp1]; exact gp_le hte
  refine e_Mo_takeOperand (to_57 (d := d + 2) hg htx h hgq (fun y => ?_) (fun _ => to_108 (d := d + 2) hg htx h1 (fun y => ?_) (fun _ => to_158 (d := d + 2) hg htx hp (fun y => ?_) (fun _ => to_220 (d := d + 2) hg ho htx h1 (fun y => ?_) (fun _ => to_316 (d := d + 2) hg ho htx h1 (fun y => ?_) (fun _ => ?_))))))
  · rw [hk] at y; exact absurd y (by decide)
  · rw [hk] at y; exact absurd y (by decide)
  · rw [hk] at y; exact absurd y (by decide)
  · rw [hk] at y; exact absurd y (by decide)
  · rw [hk] at y; exact absurd y (by decide)
  refine b_Mo_takeOperand_316 hg (wm_name hg ho htx h1.1 hgp hk hsz hN h1.2.2.2.2.2) (fun x X hv => ?_)
  obtain ⟨v, ev, hid, hnm⟩ := hv
  rw [ev]
  obtain ⟨N', n1, n2, h2⟩ := MC_nm h1 hte hnm
  refine b_Mo_takeOperand_320 (fun _ => ?_) (fun y => absurd (by rw [h2.2.1]; exact Int32.le_refl _) y)
  refine b_Mo_takeOperand_330 hg (wm_put h2.2.2.1 (by omega)) (fun x T3 hv => ?_)
  rw [hv.2]
  have h3 := MC_mP (x1 := 1) (x2 := 0) (x3 := 0) (x4 := nI p) h2
  refine b_Mo_takeOperand_338 hg (wm_gap hg h3.1) (fun T4 e4 => ?_)
  rw [hp1] at e4
  rw [e4]
  have h4 := MC_at (q' := p1) h3 hp1t
  refine b_Mo_takeOperand_344 hg (wm_isSign hg h4.1) (fun x T5 hv => ?_)
  rw [hv.1, hv.2]
  by_cases z : tk b t p1 = 91
  · rw [if_pos ((tk_sg htx hp1t (by decide) (by decide) (by decide)).mpr z)]
    have hlt := (te_s htx hp1t (c := 91) (by decide) (by decide) (by decide) z).2
    refine b_Mo_takeOperand_350 (fun y => absurd y (by decide)) (fun _ => ?_)
    by_cases zd : dp < 30
    · refine b_Mo_takeOperand_353 hg (wm_deeper hg h4.2.2.2.1 zd) (fun T6 e6 => ?_)
      rw [e6]
      have h5 := MC_dp (d' := dp + 1) h4
      have h6 := MC_at (q' := p1 + 1) h5 (by omega)
      have ea : (zi (zi (mP X j 1 0 0 (nI p)) 73 6 (nI p1)) 73 19 (nI (dp + 1))).1 73 6 + 1 = nI (p1 + 1) := by rw [h5.1.2.2.1, nI_1]
      refine b_Mo_takeOperand_361 hg (by rw [ea]; exact wm_put h6.2.2.1 (by omega)) (fun x T7 hv => ?_)
      rw [hv.2]
      have h7 := MC_mP (x1 := 6) (x2 := nI v) (x3 := 0) (x4 := nI p) h6
      refine b_Mo_takeOperand_380 hg (wm_push h7.2.2.2.2.1 hm) (fun T8 e8 => b_Mo_takeOperand_390 ⟨_, rfl, Or.inl rfl, v, X, hid, hnm, Or.inl ⟨z, rfl, ?_⟩⟩)
      rw [e8, if_pos zd]
      rfl
    · have e30 : dp = 30 := by omega
      subst e30
      refine b_Mo_takeOperand_353 hg (wm_deeperF hg h4.2.2.2.1 h4.2.1) (fun T6 e6 => ?_)
      rw [h4.1.2.2.1] at e6
      rw [e6]
      have ea : (zi (mF (zi (mP X j 1 0 0 (nI p)) 73 6 (nI p1)) 3 (nI p1)) 73 19 (nI 31)).1 73 6 + 1 = nI (p1 + 1) := by
        unfold mF
        rw [zi_k (by decide), zi_k (by decide), zi_k (by decide), zi_v, nI_1]
      refine b_Mo_takeOperand_361 hg (by rw [ea]; exact wm_put (j := j + 1) (by unfold mF; rw [zi_k (by decide), zi_k (by decide), zi_k (by decide), zi_k (by decide)]; exact h4.2.2.1) (by omega)) (fun x T7 hv => ?_)
      rw [hv.2]
      refine b_Mo_takeOperand_380 hg (wm_push (m := m) (by unfold mF; rw [mP_k (by decide), zi_k (by decide), zi_k (by decide), zi_k (by decide), zi_k (by decide)]; exact h4.2.2.2.2.1) hm) (fun T8 e8 => b_Mo_takeOperand_390 ⟨_, rfl, Or.inl rfl, v, X, hid, hnm, Or.inl ⟨z, rfl, ?_⟩⟩)
      rw [e8, if_neg zd]
      rfl
  rw [if_neg (fun y => z ((tk_sg htx hp1t (by decide) (by decide) (by decide)).mp y))]
  refine b_Mo_takeOperand_350 (fun _ => ?_) (fun y => absurd rfl y)
  refine b_Mo_takeOperand_392 hg (wm_isSign hg h4.1) (fun x T5 hv => ?_)
  rw [hv.1, hv.2]
  by_cases z2 : tk b t p1 = 40
  · rw [if_pos ((tk_sg htx hp1t (by decide) (by decide) (by decide)).mpr z2)]
    have hlt := (te_s htx hp1t (c := 40) (by decide) (by decide) (by decide) z2).2
    have hp2t : p2 ≤ t := by rw [← hp2]; exact gp_le (by omega)
    have e41 : (if sg b t p2 41 then (1 : Int32) else 0) = (if tk b t p2 = 41 then 1 else 0) := by
      by_cases y : tk b t p2 = 41
      · rw [if_pos y, if_pos ((tk_sg htx hp2t (by decide) (by decide) (by decide)).mpr y)]
      · rw [if_neg y, if_neg (fun x => y ((tk_sg htx hp2t (by decide) (by decide) (by decide)).mp x))]
    have e01 : (if tk b t p2 = 41 then (1 : Int32) else 0) = 0 ∨ (if tk b t p2 = 41 then (1 : Int32) else 0) = 1 := by
      split
      · exact Or.inr rfl
      · exact Or.inl rfl
    refine b_Mo_takeOperand_398 (fun y => absurd y (by decide)) (fun _ => ?_)
    by_cases zd : dp < 30
    · refine b_Mo_takeOperand_401 hg (wm_deeper hg h4.2.2.2.1 zd) (fun T6 e6 => ?_)
      rw [e6]
      have h5 := MC_dp (d' := dp + 1) h4
      have h6 := MC_at (q' := p1 + 1) h5 (by omega)
      have ea : (zi (zi (mP X j 1 0 0 (nI p)) 73 6 (nI p1)) 73 19 (nI (dp + 1))).1 73 6 + 1 = nI (p1 + 1) := by rw [h5.1.2.2.1, nI_1]
      refine b_Mo_takeOperand_409 hg (by rw [ea]; exact wm_put h6.2.2.1 (by omega)) (fun x T7 hv => ?_)
      rw [hv.2, hv.1]
      have h7 := MC_mP (x1 := 8) (x2 := nI v) (x3 := 0) (x4 := nI p) h6
      refine b_Mo_takeOperand_428 hg (wm_push h7.2.2.2.2.1 hm) (fun T8 e8 => ?_)
      rw [e8]
      have h8 := MC_mU (x1 := 7) (x2 := nI (j + 1)) (x3 := nI p) h7
      refine b_Mo_takeOperand_439 hg (wm_gap hg h8.1) (fun T9 e9 => ?_)
      rw [hp2] at e9
      rw [e9]
      have h9 := MC_at (q' := p2) h8 hp2t
      refine b_Mo_takeOperand_443 hg (wm_isSign hg h9.1) (fun x T10 hv => ?_)
      rw [hv.1, hv.2, e41]
      refine b_Mo_takeOperand_449 ⟨_, rfl, e01, v, X, hid, hnm, Or.inr (Or.inl ⟨z2, rfl, ?_⟩)⟩
      rw [if_pos zd]
      rfl
    · have e30 : dp = 30 := by omega
      subst e30
      refine b_Mo_takeOperand_401 hg (wm_deeperF hg h4.2.2.2.1 h4.2.1) (fun T6 e6 => ?_)
      rw [h4.1.2.2.1] at e6
      rw [e6]
      have ea : (zi (mF (zi (mP X j 1 0 0 (nI p)) 73 6 (nI p1)) 3 (nI p1)) 73 19 (nI 31)).1 73 6 + 1 = nI (p1 + 1) := by
        unfold mF
        rw [zi_k (by decide), zi_k (by decide), zi_k (by decide), zi_v, nI_1]
      have m6 : mA b t (p1 + 1) (zi (zi (mF (zi (mP X j 1 0 0 (nI p)) 73 6 (nI p1)) 3 (nI p1)) 73 19 (nI 31)) 73 6 (nI (p1 + 1))) := mA_at (mA_zi (mA_zi (mA_zi h4.1 (by decide) (by decide)) (by decide) (by decide)) (by decide) (by decide)) (by omega)
      have f13 : (zi (zi (mF (zi (mP X j 1 0 0 (nI p)) 73 6 (nI p1)) 3 (nI p1)) 73 19 (nI 31)) 73 6 (nI (p1 + 1))).1 73 13 = nI (j + 1) := by unfold mF; rw [zi_k (by decide), zi_k (by decide), zi_k (by decide), zi_k (by decide)]; exact h4.2.2.1
      have f20 : (zi (zi (mF (zi (mP X j 1 0 0 (nI p)) 73 6 (nI p1)) 3 (nI p1)) 73 19 (nI 31)) 73 6 (nI (p1 + 1))).1 73 20 = nI m := by unfold mF; rw [zi_k (by decide), zi_k (by decide), zi_k (by decide), zi_k (by decide)]; exact h4.2.2.2.2.1
      refine b_Mo_takeOperand_409 hg (by rw [ea]; exact wm_put f13 (by omega)) (fun x T7 hv => ?_)
      rw [hv.2, hv.1]
      refine b_Mo_takeOperand_428 hg (wm_push (m := m) (by rw [mP_k (by decide)]; exact f20) hm) (fun T8 e8 => ?_)
      rw [e8]
      have mU6 : mA b t (p1 + 1) (mU (mP (zi (zi (mF (zi (mP X j 1 0 0 (nI p)) 73 6 (nI p1)) 3 (nI p1)) 73 19 (nI 31)) 73 6 (nI (p1 + 1))) (j + 1) 8 (nI v) 0 (nI p)) m 7 (nI (j + 1)) (nI p)) := by
        unfold mU mP
        refine mA_zi ?_ (by decide) (by decide)
        have o : ∀ {Y : zS} {c k : Nat} {x : Int32}, mA b t (p1 + 1) Y → c ≠ 73 → c ≠ 75 → mA b t (p1 + 1) (zi Y c k x) := fun hY c1 c2 => ⟨by rw [zi_c (fun e => c1 e.symm)]; exact hY.1, fun k' hk' => by rw [zi_c (fun e => c2 e.symm)]; exact hY.2.1 k' hk', by rw [zi_c (fun e => c1 e.symm)]; exact hY.2.2.1, hY.2.2.2⟩
        refine o (o (o (o (mA_zi (o (o (o (o m6 (by decide) (by decide)) (by decide) (by decide)) (by decide) (by decide)) (by decide) (by decide)) (by decide) (by decide)) (by decide) (by decide)) (by decide) (by decide)) (by decide) (by decide)) (by decide) (by decide)
      refine b_Mo_takeOperand_439 hg (wm_gap hg mU6) (fun T9 e9 => ?_)
      rw [hp2] at e9
      rw [e9]
      refine b_Mo_takeOperand_443 hg (wm_isSign hg (mA_at mU6 hp2t)) (fun x T10 hv => ?_)
      rw [hv.1, hv.2, e41]
      refine b_Mo_takeOperand_449 ⟨_, rfl, e01, v, X, hid, hnm, Or.inr (Or.inl ⟨z2, rfl, ?_⟩)⟩
      rw [if_neg zd]
      rfl
  · rw [if_neg (fun y => z2 ((tk_sg htx hp1t (by decide) (by decide) (by decide)).mp y))]
    refine b_Mo_takeOperand_398 (fun _ => ?_) (fun y => absurd rfl y)
    refine b_Mo_takeOperand_450 hg (wm_put h4.2.2.1 (by omega)) (fun x T6 hv => b_Mo_takeOperand_458 ⟨_, rfl, Or.inr rfl, v, X, hid, hnm, Or.inr (Or.inr ⟨z, z2, rfl, ?_⟩)⟩)
    rw [hv.2]
    rfl
end TO2
