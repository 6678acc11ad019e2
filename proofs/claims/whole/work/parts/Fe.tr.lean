/-! truth(): what must be known of mean(), and the turn -/
def FMn (X X' : zS) : Prop := (∀ c k, ¬ (c = 73 ∧ (k = 110 ∨ k = 115 ∨ k = 118 ∨ k = 119)) → ¬ (c = 144 ∨ c = 145) → X'.1 c k = X.1 c k) ∧ ∀ c k, ¬ (c = 141 ∨ c = 142 ∨ c = 147 ∨ c = 148 ∨ c = 149) → X'.2 c k = X.2 c k
/-- sizes of a circuit -/
def szC (S : zS) (G wb iw no : Nat) : Prop := G ≤ 40000 ∧ wb ≤ 8192 ∧ iw ≤ 256 ∧ no ≤ 444 ∧ S.1 24 4 = nI G ∧ S.1 24 8 = nI wb ∧ S.1 17 6 = nI iw ∧ S.1 24 11 = nI no
/-- outputs k are these -/
def owV (S X : zS) (no : Nat) (V : Nat → Nat) : Prop := ∀ k m, k < no → m ≤ 32 → S.1 120 k = nI m → X.2 149 k = lN (tdV (fun j => litV V (S.1 121 (32 * k + j))) m)
/-- mean() says what the circuit reckons, as long as the code stays -/
def MEA (n w : Nat) (S : zS) : Prop := ∀ (G wb iw no : Nat), szC S G wb iw no → ∀ (l : Launch) (Gr : zG) (d : Nat) (X : zS) (vm V : Nat → Nat), ip_gk (lg_tbl, vwCl, Gr) → (∀ c k, (c = 73 ∧ k = 13) ∨ (78 ≤ c ∧ c ≤ 80) ∨ c = 89 ∨ (102 ≤ c ∧ c ≤ 104) → X.1 c k = S.1 c k) → (∀ k, X.2 82 k = S.2 82 k) → (∀ a, a < iw → vm a < 2 ^ iB S a ∧ (if X.1 73 124 = 0 then X.2 118 a else X.2 119 a) = lN (vm a)) → CVs S G wb iw vm V → zMv l Gr (zc n w) 168 M_Mo_mean (d + 10) [.ref 105] X (fun X' => owV S X' no V ∧ X'.1 73 119 = 1 ∧ FMn X X')
def vmE (S : zS) (a : Nat) : Nat := if S.1 0 15 = 0 then vmF S a else (S.1 22 a).toBitVec.toNat
def CWk (S : zS) : Prop := ∀ G wb iw no, szC S G wb iw no → ∃ V, CVs S G wb iw (vmE S) V ∧ ∀ t, t < wb + G → S.1 33 t = nI (V t)
def OWk (S : zS) : Prop := ∀ G wb iw no, szC S G wb iw no → ∀ V, CVs S G wb iw (vmE S) V → owV S S no V
def XTr (n w : Nat) (S : zS) : Prop := (S.1 73 83 = 1 → MEA n w S) ∧ (¬ S.1 0 16 = 0 → S.1 0 14 = 1 → CWk S) ∧ (¬ S.1 73 119 = 0 → S.1 73 83 = 1 → OWk S)
/-- cells that values of a circuit are read from -/
def cvR (c k : Nat) : Prop := (c = 17 ∧ k = 6) ∨ c = 19 ∨ (c = 24 ∧ (k = 4 ∨ k = 8 ∨ k = 11)) ∨ c = 111 ∨ c = 113 ∨ c = 114 ∨ c = 120 ∨ c = 121
section TRU
variable {l : Launch} {Gr : zG} {n w d G wb iw no k m : Nat} {S S' X : zS} {x : Int32} {vm vm' V V' : Nat → Nat} {Q : Option Value → zS → Prop}
theorem szC_fr (h : szC S' G wb iw no) (hf : ∀ c k, cvR c k → S'.1 c k = S.1 c k) : szC S G wb iw no := by
  obtain ⟨h1, h2, h3, h4, h5, h6, h7, h8⟩ := h
  exact ⟨h1, h2, h3, h4, by rw [← hf 24 4 (by unfold cvR; omega)]; exact h5, by rw [← hf 24 8 (by unfold cvR; omega)]; exact h6, by rw [← hf 17 6 (by unfold cvR; omega)]; exact h7, by rw [← hf 24 11 (by unfold cvR; omega)]; exact h8⟩
theorem CVs_fr (hf : ∀ c k, cvR c k → S'.1 c k = S.1 c k) (hv : ∀ a, a < iw → vm' a = vm a) (h : CVs S' G wb iw vm' V) : CVs S G wb iw vm V := by
  obtain ⟨h1, h2, h3⟩ := h
  have eB : iB S' = iB S := funext fun a => by unfold iB; rw [hf 19 a (by unfold cvR; omega)]
  have eA : gAn S' = gAn S := funext fun g => by unfold gAn; rw [hf 111 g (by unfold cvR; omega)]
  refine ⟨h1, fun a j a1 a2 => ?_, fun g hg => ?_⟩
  · rw [← hv a a1, ← eB]
    exact h2 a j a1 (by rw [eB]; exact a2)
  · rw [← hf 113 g (by unfold cvR; omega), ← hf 114 g (by unfold cvR; omega), ← eA]
    exact h3 g hg
theorem owV_fr (hf : ∀ c k, cvR c k → S'.1 c k = S.1 c k) (h : owV S X no V) : owV S' X no V := fun k m hk hm h120 => by
  have e : (fun j => litV V (S'.1 121 (32 * k + j))) = fun j => litV V (S.1 121 (32 * k + j)) := funext fun j => by rw [hf 121 _ (by unfold cvR; omega)]
  rw [e]
  exact h k m hk hm (by rw [← hf 120 k (by unfold cvR; omega)]; exact h120)
theorem MEA_fr (h : MEA n w S) (hf : ∀ c k, cvR c k → S'.1 c k = S.1 c k) (hm : ∀ c k, (c = 73 ∧ k = 13) ∨ (78 ≤ c ∧ c ≤ 80) ∨ c = 89 ∨ (102 ≤ c ∧ c ≤ 104) → S'.1 c k = S.1 c k) (h2 : ∀ k, S'.2 82 k = S.2 82 k) : MEA n w S' := fun G wb iw no hs l Gr d X vm V hg hX hX2 hv hC => by
  have eB : iB S' = iB S := funext fun a => by unfold iB; rw [hf 19 a (by unfold cvR; omega)]
  obtain ⟨_, S1, ⟨rfl, r1, r2⟩, e⟩ := h G wb iw no (szC_fr hs hf) l Gr d X vm V hg (fun c k q => (hX c k q).trans (hm c k q)) (fun k => (hX2 k).trans (h2 k)) (fun a ha => by rw [← eB]; exact hv a ha) (CVs_fr hf (fun _ _ => rfl) hC)
  exact ⟨_, S1, ⟨rfl, owV_fr hf r1, r2⟩, e⟩
theorem CV_un (hn : n ≤ 16) (hw : w ≤ 32) (hF : DFx n w S G wb iw) (h1 : CVs S G wb iw vm V) (h2 : CVs S G wb iw vm V') : ∀ m, m ≤ wb + G → ∀ t, t < m → V t = V' t
  | 0, _, t, ht => absurd ht (Nat.not_lt_zero _)
  | m + 1, hm, t, ht => by
    have ih := CV_un hn hw hF h1 h2 m (by omega)
    obtain ⟨f1, f2, f3, f4, f5, f6, f7, f8, f9, f10, f11, f12, f13, f14⟩ := hF
    by_cases z : t < m
    · exact ih t z
    · by_cases z2 : t < wb
      · obtain ⟨a, j, a1, a2, a3⟩ := Wb_ex (bt := iB S) iw t (by rw [← f4]; exact z2)
        rw [a3, h1.2.1 a j a1 a2, h2.2.1 a j a1 a2]
      · obtain ⟨g, rfl⟩ : ∃ g, t = wb + g := ⟨t - wb, by omega⟩
        obtain ⟨⟨xa, ha, ea⟩, xb, hb, eb⟩ := f13 g (by omega)
        have ea' : S.1 113 g = nI xa := ea
        have eb' : S.1 114 g = nI xb := eb
        have l1 : ∀ y, y < 2 * (wb + g) → litV V (nI y) = litV V' (nI y) := fun y hy => by
          unfold litV
          rw [shr_n (by omega), nI_clamp (by omega), ih (y / 2) (by omega)]
        rw [h1.2.2 g (by omega), h2.2.2 g (by omega), ea', eb', l1 xa ha, l1 xb hb]
/-- with a circuit: its sizes and the inputs that count now -/
theorem ve_f (hn : 2 ≤ n ∧ n ≤ 16) (hw : 1 ≤ w ∧ w ≤ 32) (hA : iAl n w S) (h14 : S.1 0 14 = 1) : ∃ G wb iw no bo, DFx n w S G wb iw ∧ szC S G wb iw no ∧ 9 * no ≤ 4000 ∧ OUx w no bo S S ∧ S.1 73 83 = 1 ∧ ∀ a, a < iw → vmE S a < 2 ^ iB S a ∧ (if S.1 0 15 = 0 then S.1 21 a else S.1 22 a) = nI (vmE S a) ∧ (if S.1 73 124 = 0 then S.2 118 a else S.2 119 a) = lN (vmE S a) := by
  obtain ⟨-, -, h3, h4, -⟩ := hA
  rcases h3 with ⟨b1, -⟩ | ⟨-, h83, hC⟩
  · rw [h14] at b1
    exact absurd b1 (by decide)
  · obtain ⟨G, wb, iw, hF⟩ := dl_f hn.2 hw hC
    have hF' := hF
    obtain ⟨f1, f2, f3, f4, f5, f6, f7, f8, f9, f10, f11, f12, f13, f14⟩ := hF'
    obtain ⟨g0, Dm0, iw0, no, bo, ceq, hno, ou, -⟩ := hC
    refine ⟨G, wb, iw, no, bo, hF, ⟨f1, by omega, f3, by omega, f7, f9, f5, ou.1⟩, hno, ou, h83, fun a ha => ?_⟩
    obtain ⟨i1, i2, i3, -, -, -, -, -, -, i10, i11⟩ := f12 a ha
    unfold vmE
    rcases h4 with ⟨d1, d2, -⟩ | ⟨d1, d2, -, -, -, -, ⟨G', wb', iw', vm, k1, k2, k3, k4, k5, k6, k7, k8, k9, k10⟩⟩
    · rw [if_pos d1, if_pos d1, if_pos d2]
      exact ⟨i3, i10, i11⟩
    · have eIw : iw' = iw := (nI_eq (by omega) (by omega)).mp (k6.symm.trans f5)
      obtain ⟨b1, b2, b3, -⟩ := k10 a (by omega)
      have e : (S.1 22 a).toBitVec.toNat = vm a := by
        rw [b2]
        exact Nat.mod_eq_of_lt (pw_lt b1 (by omega))
      rw [if_neg (show ¬ S.1 0 15 = 0 by rw [d1]; decide), if_neg (show ¬ S.1 0 15 = 0 by rw [d1]; decide), if_neg (show ¬ S.1 73 124 = 0 by rw [d2]; decide), e]
      exact ⟨b1, b2, b3⟩
theorem zW_mn {M : ip_M} {pc : Nat} {L : zL} {st : List Value} {Q' : Option Value → zS → Prop} (h : zW l Gr (zc n w) 168 M d pc L st S Q) (hq : ∀ v S', Q v S' → Q' v S') : zW l Gr (zc n w) 168 M d pc L st S Q' := by
  obtain ⟨a, S', q, r⟩ := h
  exact ⟨a, S', hq a S' q, r⟩
/-- truth() of the class, of output k -/
theorem w_truth {bo : Nat → Nat} (hg : ip_gk (lg_tbl, vwCl, Gr)) (hn : 2 ≤ n ∧ n ≤ 16) (hw : 1 ≤ w ∧ w ≤ 32) (h14 : S.1 0 14 = 1) (hF : DFx n w S G wb iw) (hz : szC S G wb iw no) (hno : 9 * no ≤ 4000) (hO : OUx w no bo S S) (hv : ∀ a, a < iw → vmE S a < 2 ^ iB S a ∧ (if S.1 0 15 = 0 then S.1 21 a else S.1 22 a) = nI (vmE S a)) (hc : ¬ S.1 0 16 = 0 → CWk S) (hk : k < no) (hm : S.1 120 k = nI m) (hm32 : m = 1 ∨ m = w) : zMl l Gr (zc n w) 168 M_H_truth (d + 3) [.ref 32, .int (nI k)] S (fun v S' => ∃ V, CVs S G wb iw (vmE S) V ∧ v = lN (tdV (fun j => litV V (S.1 121 (32 * k + j))) m) ∧ ¬ S'.1 0 16 = 0 ∧ (∀ t, t < wb + G → S'.1 33 t = nI (V t)) ∧ (∀ c i, ¬ c = 33 → ¬ (c = 0 ∧ i = 16) → S'.1 c i = S.1 c i) ∧ ∀ c i, S'.2 c i = S.2 c i) := by
  obtain ⟨o11, o69, b0, o31, ot⟩ := hO
  have hF' := hF
  obtain ⟨f1, f2, f3, f4, f5, f6, f7, f8, f9, f10, f11, f12, f13, f14⟩ := hF'
  obtain ⟨m', hm', m1, m2, m3⟩ := ot k hk
  have em : m' = m := (nI_eq (by omega) (by omega)).mp (m1.symm.trans hm)
  subst em
  have hm32' : m' ≤ 32 := by omega
  have hbo := (o31 (k + 1) (by omega)).2
  have hlit : ∀ j, j < m' → (S.1 121 (32 * k + j) < 0 ∨ ∃ a, a < 2 * (wb + G) ∧ S.1 121 (32 * k + j) = nI a) := fun j hj => by
    by_cases z : S.1 121 (32 * k + j) < 0
    · exact Or.inl z
    · obtain ⟨a, ha, e⟩ := nI_of z
      have hv := (m3 j hj).2
      rw [e] at hv
      exact Or.inr ⟨a, vc_lt f1 (by omega) f10 f8 ha hv, e⟩
  have tail : ∀ (T : zS) (V : Nat → Nat), CVs S G wb iw (vmE S) V → (∀ t, t < wb + G → T.1 33 t = nI (V t)) → ¬ T.1 0 16 = 0 → (∀ c i, ¬ c = 33 → ¬ (c = 0 ∧ i = 16) → T.1 c i = S.1 c i) → (∀ c i, T.2 c i = S.2 c i) → zW l Gr (zc n w) 168 M_H_truth (d + 3) 39 [some (.ref 32), some (.int (nI k)), none, none, none] [] T (fun v S' => ∃ y, v = some (.long y) ∧ ∃ V, CVs S G wb iw (vmE S) V ∧ y = lN (tdV (fun j => litV V (S.1 121 (32 * k + j))) m') ∧ ¬ S'.1 0 16 = 0 ∧ (∀ t, t < wb + G → S'.1 33 t = nI (V t)) ∧ (∀ c i, ¬ c = 33 → ¬ (c = 0 ∧ i = 16) → S'.1 c i = S.1 c i) ∧ ∀ c i, S'.2 c i = S.2 c i) := fun T V hV h33 h16 fr fr2 => by
    have h01 : ∀ j, (fun j => litV V (S.1 121 (32 * k + j))) j = 0 ∨ (fun j => litV V (S.1 121 (32 * k + j))) j = 1 := fun j => litV_01 hV.1 _
    have hlt := tdV_lt h01
    have t11 : T.1 24 11 = nI no := by rw [fr 24 11 (by omega) (by omega)]; exact o11
    have t31 : ∀ t, t ≤ no → T.1 31 t = nI (bo t) := fun t ht => by rw [fr 31 t (by omega) (by omega)]; exact (o31 t ht).1
    have lc : ∀ c j, j + c = m' → zW l Gr (zc n w) 168 M_H_truth (d + 3) 44 [some (.ref 32), some (.int (nI k)), some (.long (lN (tdV (fun j => litV V (S.1 121 (32 * k + j))) j))), none, some (.int (nI j))] [] T (fun v S' => ∃ y, v = some (.long y) ∧ y = lN (tdV (fun j => litV V (S.1 121 (32 * k + j))) m') ∧ S' = T) := fun c => by
      induction c with
      | zero =>
        intro j hj
        have ej : j = m' := by omega
        refine b_H_truth_44 hg (cl_bits hno t11 t31 hk m2) (fun v S1 e => ?_)
        obtain ⟨rfl, rfl⟩ := e
        exact b_H_truth_54 (fun _ => b_H_truth_87 ⟨_, rfl, by rw [ej], rfl⟩) (fun y => absurd (nI_le (by omega) (by omega)) y)
      | succ c ih =>
        intro j hj
        have hb : bo k + j < 444 * w := by
          have : (k + 1) * w ≤ 444 * w := Nat.mul_le_mul_right _ (by omega)
          omega
        refine b_H_truth_44 hg (cl_bits hno t11 t31 hk m2) (fun v S1 e => ?_)
        obtain ⟨rfl, rfl⟩ := e
        refine b_H_truth_54 (fun y => absurd y (nI_ge (by omega) (by omega))) (fun _ => b_H_truth_57 hg (cl_lit hg hno t11 t31 hk m2 (by omega) hm32' hb hw.2) (fun v S2 e => ?_))
        obtain ⟨rfl, rfl⟩ := e
        rw [fr 32 _ (by omega) (by omega), (m3 j (by omega)).1]
        refine b_H_truth_72 hg (w_clr hw.2 ?_) (fun v S3 e => ?_)
        · rcases hlit j (by omega) with z | ⟨a, ha, e⟩
          · exact Or.inl z
          · exact Or.inr ⟨a, by omega, e⟩
        · obtain ⟨rfl, rfl⟩ := e
          refine b_H_truth_75 ?_
          have e33 := shK_lit (S := S3) (x := S.1 121 (32 * k + j)) (b := wb + G) hV.1 (by
            rcases hlit j (by omega) with z | ⟨a, ha, e⟩
            · exact Or.inl z
            · exact Or.inr ⟨a, ha, by omega, e⟩) h33
          rw [e33, shl_b1 (litV_01 hV.1 _) (by omega), or_ll (hlt j) (by omega) (litV_01 hV.1 _), show nI j + Int32.ofInt 1 = nI (j + 1) from nI_add j 1]
          exact ih (j + 1) (by omega)
    refine b_H_truth_39 (zW_mn (lc m' 0 (by omega)) (fun v S' q => ?_))
    obtain ⟨y, q1, q2, rfl⟩ := q
    exact ⟨y, q1, V, hV, q2, h16, h33, fr, fr2⟩
  have gn : ¬ nI no ≤ nI k := nI_ge (by omega) (by omega)
  refine e_H_truth (b_H_truth_0 hg (cl_has1 (by rw [h14]; decide) (nI_pos (by omega)) (by rw [o11]; exact gn)) (fun v S1 e => ?_))
  obtain ⟨rfl, rfl⟩ := e
  refine b_H_truth_5 (fun _ => b_H_truth_12 (fun y => ?_) (fun y => b_H_truth_19 hg (w_work (vm := vmE S1) hg hn.2 hw.2 hF hv) (fun S2 e => b_H_truth_34 ?_))) (fun y => absurd y (by decide))
  · obtain ⟨V, v1, v2⟩ := hc y G wb iw no hz
    exact tail S1 V v1 v2 y (fun _ _ _ _ => rfl) (fun _ _ => rfl)
  · obtain ⟨q1, V, v1, v2⟩ := e
    exact tail _ V v1 (fun t ht => by rw [zi_c (by decide)]; exact v2 t ht) (by rw [zi_v]; decide) (fun c i z1 z2 => by rw [zi_get, if_neg z2]; exact q1.1 c i z1) (fun c i => q1.2 c i)
end TRU
