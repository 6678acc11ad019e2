/-! what compile() leaves with a circuit, in one store -/
/-- an input's value on both sides -/
def IVa (bt : Nat) (x : Int32) (v : Int64) : Prop := ∃ m : Nat, m < 2 ^ bt ∧ x = nI m ∧ v = lN m
/-- inputs alike -/
def Ik (n w iw : Nat) (S : zS) : Prop := iw ≤ 256 ∧ S.1 17 6 = nI iw ∧ S.1 17 7 = nI (iW S iw) ∧ S.1 73 75 = nI iw ∧ S.1 73 65 = nI (iW S iw) ∧ (∀ a, a < iw → ∃ o bt, o < n ∧ (bt = 1 ∨ bt = w) ∧ S.1 18 a = nI o ∧ S.1 19 a = nI bt ∧ S.1 20 a = nI (iW S a) ∧ S.1 115 a = nI o ∧ S.1 116 a = nI bt ∧ S.1 117 a = nI (iW S a) ∧ IVa bt (S.1 21 a) (S.2 118 a)) ∧ ∀ q, q < n → S.1 23 q = nI (iQ S q iw) ∧ S.1 167 q = nI (iQ S q iw)
/-- ANDs by levels alike -/
def LVk (g Dm : Nat) (S : zS) : Prop := GLv (gAn S) (gLv S) g S ∧ MLv (gAn S) (gLv S) g Dm S ∧ (∀ m, 1 ≤ m → m < 2003 → S.1 30 m = nI (sL (gAn S) (gLv S) m g)) ∧ (∀ m, 1 ≤ m → m ≤ Dm + 1 → S.1 155 m = nI (sL (gAn S) (gLv S) m g)) ∧ ∀ x, x < g → gAn S x = true → S.1 29 (qLv (gAn S) (gLv S) g x) = nI x ∧ S.1 156 (qLv (gAn S) (gLv S) g x) = nI x
def iCk (n w : Nat) (S : zS) : Prop := ∃ g Dm iw no bo, CEQ S S ∧ 9 * no ≤ 4000 ∧ OUx w no bo S S ∧ S.1 73 145 = nI (bo no) ∧ Ik n w iw S ∧ S.1 45 18 = S.1 73 70 ∧ LVk g Dm S
section ICK
variable {n w : Nat} {A A' B B' S S' T S1 S2 : zS} {an an' : Nat → Bool} {lv lv' : Nat → Nat} {g g' L c k : Nat} {x : Int32}
theorem zmx_l (h : c < 73) : (zmx S T).1 c k = S.1 c k := by
  show (if c < 73 then S.1 c else T.1 c) k = _
  rw [if_pos h]
theorem zmx_r (h : 73 ≤ c) : (zmx S T).1 c k = T.1 c k := by
  show (if c < 73 then S.1 c else T.1 c) k = _
  rw [if_neg (by omega)]
theorem zmx_l2 (h : c < 73) : (zmx S T).2 c k = S.2 c k := by
  show (if c < 73 then S.2 c else T.2 c) k = _
  rw [if_pos h]
theorem zmx_r2 (h : 73 ≤ c) : (zmx S T).2 c k = T.2 c k := by
  show (if c < 73 then S.2 c else T.2 c) k = _
  rw [if_neg (by omega)]
theorem CEQ_El (hC : CEQ A B) (hS : KEc A A') (hT : MEl B B') : CEQ A' B' := by
  obtain ⟨g, iw, hg, hi, h4, h66, h8, h65, h5, h67, h6, ⟨Dm, hDm, h68⟩, hr⟩ := hC
  refine ⟨g, iw, hg, hi, (hS.1 4 (by omega) (by omega)).trans h4, (hT.1 66 (by omega)).trans h66, (hS.1 8 (by omega) (by omega)).trans h8, (hT.1 65 (by omega)).trans h65, ?_, ?_, ?_, ⟨Dm, hDm, (hT.1 68 (by omega)).trans h68⟩, fun k hk => ⟨?_, WG1_E (hr k hk).2 (fun c q1 q2 => hT.2 c k (by omega)) (hT.1 68 (by omega))⟩⟩
  · rw [hS.1 5 (by omega) (by omega), hT.1 67 (by omega)]; exact h5
  · rw [hT.1 67 (by omega), cAn_El hT]; exact h67
  · rw [hS.1 6 (by omega) (by omega), hT.1 68 (by omega)]; exact h6
  · rw [hS.2 25 k (by omega) (by omega), hS.2 26 k (by omega) (by omega), hS.2 27 k (by omega) (by omega), hS.2 28 k (by omega) (by omega), hT.2 113 k (by omega), hT.2 114 k (by omega), hT.2 112 k (by omega), hT.2 111 k (by omega), cAn_El hT]
    exact (hr k hk).1
theorem GLv_1 (h : GLv an lv g A) (h' : GLv an' lv' g' A) : g = g' ∧ ∀ k, k < g → an k = an' k ∧ lv k = lv' k := by
  have e : g = g' := (nI_eq (by have := h.2.1; omega) (by have := h'.2.1; omega)).mp (h.1.symm.trans h'.1)
  subst e
  refine ⟨rfl, fun k hk => ?_⟩
  obtain ⟨a1, a2, a3, -⟩ := h.2.2 k hk
  obtain ⟨b1, b2, b3, -⟩ := h'.2.2 k hk
  refine ⟨?_, (nI_eq (by omega) (by omega)).mp (a1.symm.trans b1)⟩
  have z : an k = true ↔ an' k = true := by
    constructor
    · intro y
      cases e : an' k with
      | true => rfl
      | false => exact absurd y (a2.mp (b2.mpr (by rw [e]; decide)))
    · intro y
      cases e : an k with
      | true => rfl
      | false => exact absurd y (b2.mp (a2.mpr (by rw [e]; decide)))
  exact Bool.eq_iff_iff.mpr z
theorem sL_cong (h : ∀ k, k < g → an k = an' k ∧ lv k = lv' k) : ∀ k, k ≤ g → sL an lv L k = sL an' lv' L k
  | 0, _ => rfl
  | k + 1, hk => by
    show sL an lv L k + _ = sL an' lv' L k + _
    rw [sL_cong h k (by omega), (h k (by omega)).1, (h k (by omega)).2]
theorem cL_cong (h : ∀ k, k < g → an k = an' k ∧ lv k = lv' k) : ∀ k, k ≤ g → cL an lv L k = cL an' lv' L k
  | 0, _ => rfl
  | k + 1, hk => by
    show cL an lv L k + _ = cL an' lv' L k + _
    rw [cL_cong h k (by omega), (h k (by omega)).1, (h k (by omega)).2]
theorem iQ_cong2 (h : ∀ a, S'.1 18 a = S.1 18 a ∧ S'.1 19 a = S.1 19 a) (y : Nat) : ∀ m, iQ S' y m = iQ S y m
  | 0 => rfl
  | m + 1 => by
    show iQ S' y m + (if iO S' m = y then iB S' m else 0) = iQ S y m + (if iO S m = y then iB S m else 0)
    have e1 : iO S' m = iO S m := by unfold iO; rw [(h m).1]
    have e2 : iB S' m = iB S m := by unfold iB; rw [(h m).2]
    rw [iQ_cong2 h y m, e1, e2]
theorem g_ck (h : CMG n w x S1 S2) : iCk n w (zmx S1 S2) ∧ (zmx S1 S2).1 0 14 = 1 ∧ (zmx S1 S2).1 73 83 = 1 := by
  obtain ⟨-, S6, A, A2, T6, B1, B, Av, D, k, t, i, j, vw, nv, vb, vq, vt, no, bo, st, iw, an, lv, g, g', Dm, hD, hk, ht, cx, aa, ic, kbc, gl, fin, eS, ins, kbm, h9, pg, ceq, gl', ml, mf⟩ := h
  have fA : ∀ c k, c < 73 → ¬ (c = 0 ∧ (k = 4 ∨ k = 14)) → ¬ (c = 29 ∨ c = 30) → (zmx S1 S2).1 c k = A.1 c k := fun c k q1 q2 q3 => by
    rw [zmx_l q1, eS, zi_get, if_neg (by omega), fin.1 c k q3, zi_get, if_neg (by omega)]
  have f6 : ∀ c k, 17 ≤ c → c ≤ 23 → (zmx S1 S2).1 c k = S6.1 c k := fun c k q1 q2 => by
    rw [fA c k (by omega) (by omega) (by omega), kbc.1 c k (by omega) (by omega) (by omega), kBu_n2 (by omega) (by omega), kCc_n (by omega) (by omega)]
  have r : ∀ c k, 73 ≤ c → ¬ (c = 73 ∧ (k = 5 ∨ k = 83 ∨ k = 145)) → ¬ (c = 155 ∨ c = 156 ∨ c = 167) → (zmx S1 S2).1 c k = B.1 c k := fun c k q1 q2 q3 => by
    rw [zmx_r q1]
    exact mf.1 c k q2 q3
  have rI : ∀ c k, 115 ≤ c ∧ c ≤ 117 → (zmx S1 S2).1 c k = B1.1 c k := fun c k q => by
    rw [r c k (by omega) (by omega) (by omega), kbm.1 c k (by omega) (by omega) (by omega)]
    exact mBu_n (by omega)
  have eW : ∀ m, iW (zmx S1 S2) m = iW S6 m := fun m => iW_cong m (fun a _ => f6 19 a (by omega) (by omega))
  have eQ : ∀ y m, iQ (zmx S1 S2) y m = iQ S6 y m := iQ_cong2 (fun a => ⟨f6 18 a (by omega) (by omega), f6 19 a (by omega) (by omega)⟩)
  have eA : gAn (zmx S1 S2) = gAn B := funext fun k => by unfold gAn; rw [r 111 k (by omega) (by omega) (by omega)]
  have eL : gLv (zmx S1 S2) = gLv B := funext fun k => by unfold gLv; rw [r 112 k (by omega) (by omega) (by omega)]
  have hKE : KEc A (zmx S1 S2) := ⟨fun k q1 q2 => fA 24 k (by omega) (by omega) (by omega), fun c k q1 q2 => fA c k (by omega) (by omega) (by omega)⟩
  have hME : MEl B (zmx S1 S2) := ⟨fun k q => r 73 k (by omega) (by omega) (by omega), fun c k q => r c k (by omega) (by omega) (by omega)⟩
  obtain ⟨eg, eq⟩ := GLv_1 gl gl'
  subst eg
  have h65 : B.1 73 65 = nI (iW S6 iw) := pg.2
  have h75 : B.1 73 75 = nI iw := (kbm.1 73 75 (by omega) (by omega) (by omega)).trans ((mBu_n (by omega)).trans ins.2.2.1)
  have hst : A.1 45 18 = nI st ∧ B.1 73 70 = nI st := ⟨pg.1.1.1.2.2.2.2.2.1, pg.1.1.2.1.2.2.1⟩
  obtain ⟨o11, o69, b0, o31, ot⟩ := pg.1.2.2.2.2.2.2
  refine ⟨⟨g, Dm, iw, no, bo, CEQ_El ceq hKE hME, h9, ⟨(fA 24 11 (by omega) (by omega) (by omega)).trans o11, (r 73 69 (by omega) (by omega) (by omega)).trans o69, b0, fun t ht => ⟨(fA 31 t (by omega) (by omega) (by omega)).trans (o31 t ht).1, (o31 t ht).2⟩, fun t ht => ?_⟩, ?_, ⟨ic.1, (f6 17 6 (by omega) (by omega)).trans ic.2.1, ?_, (r 73 75 (by omega) (by omega) (by omega)).trans h75, ?_, fun a ha => ?_, fun y hy => ⟨?_, ?_⟩⟩, ?_, ?_⟩, ?_, ?_⟩
  · obtain ⟨m, m1, m2, m3, m4⟩ := ot t ht
    refine ⟨m, m1, (r 120 t (by omega) (by omega) (by omega)).trans m2, m3, fun y hy => ?_⟩
    rw [fA 32 _ (by omega) (by omega) (by omega), r 121 _ (by omega) (by omega) (by omega)]
    exact ⟨(m4 y hy).1, VC_El hME (m4 y hy).2⟩
  · rw [zmx_r (by omega)]
    exact mf.2.2.2.2.1
  · rw [f6 17 7 (by omega) (by omega), eW]
    exact ic.2.2.1
  · rw [r 73 65 (by omega) (by omega) (by omega), eW]
    exact h65
  · obtain ⟨o, bt, i1, i2, i3, i4, i5, i6⟩ := ic.2.2.2.1 a ha
    obtain ⟨j1, j2, j3, j4⟩ := ins.2.2.2.2 a ha
    refine ⟨o, bt, i1, i2, (f6 18 a (by omega) (by omega)).trans i3, (f6 19 a (by omega) (by omega)).trans i4, by rw [f6 20 a (by omega) (by omega), eW]; exact i5, (rI 115 a (by omega)).trans (j1.trans i3), (rI 116 a (by omega)).trans (j2.trans i4), by rw [rI 117 a (by omega), eW]; exact j3, 0, Nat.two_pow_pos bt, (f6 21 a (by omega) (by omega)).trans i6, ?_⟩
    rw [zmx_r2 (by omega), mf.2.1, kbm.2 118 a (by omega)]
    exact j4
  · rw [f6 23 y (by omega) (by omega), eQ]
    exact ic.2.2.2.2 y hy
  · rw [zmx_r (by omega), eQ]
    exact mf.2.2.2.2.2.1 y hy
  · rw [fA 45 18 (by omega) (by omega) (by omega), r 73 70 (by omega) (by omega) (by omega), hst.1, hst.2]
  · unfold LVk
    rw [eA, eL]
    refine ⟨⟨(fA 24 4 (by omega) (by omega) (by omega)).trans gl'.1, gl'.2.1, fun k hk => ?_⟩, ⟨(r 73 66 (by omega) (by omega) (by omega)).trans ml.1, ml.2.1, (r 73 68 (by omega) (by omega) (by omega)).trans ml.2.2.1, ml.2.2.2.1, fun k hk => ?_⟩, fun m q1 q2 => ?_, fun m q1 q2 => ?_, fun x q1 q2 => ⟨?_, ?_⟩⟩
    · rw [fA 27 k (by omega) (by omega) (by omega), fA 28 k (by omega) (by omega) (by omega)]
      exact gl'.2.2 k hk
    · rw [r 112 k (by omega) (by omega) (by omega), r 111 k (by omega) (by omega) (by omega)]
      exact ml.2.2.2.2 k hk
    · rw [zmx_l (by omega), eS, zi_c (by decide), fin.2.2.1 m q1 q2, sL_cong eq g (Nat.le_refl _)]
    · rw [zmx_r (by omega)]
      exact mf.2.2.2.2.2.2.1 m q1 q2
    · have e1 : qLv (gAn B) (gLv B) g x = qLv an lv g x := by
        unfold qLv
        rw [← (eq x q1).2, sL_cong eq g (Nat.le_refl _), cL_cong eq x (by omega)]
      rw [zmx_l (by omega), eS, zi_c (by decide), e1]
      exact fin.2.2.2 x q1 (by rw [(eq x q1).1]; exact q2)
    · rw [zmx_r (by omega)]
      exact mf.2.2.2.2.2.2.2 x q1 q2
  · rw [zmx_l (by omega), eS]
    exact zi_v
  · rw [zmx_r (by omega)]
    exact mf.2.2.2.1
end ICK
