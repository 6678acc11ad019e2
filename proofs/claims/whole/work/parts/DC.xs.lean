/-! BUILD on both sides: what is alike in an EXPR -/
def bw (w r : Nat) : Nat := if r = 1 then 1 else w
def CCo (S A : zS) : Prop := A.1 3 4 = S.1 3 4 ∧ ∀ c k, (4 ≤ c ∧ c ≤ 7) ∨ (11 ≤ c ∧ c ≤ 15) ∨ c = 20 → A.1 c k = S.1 c k
def MCo (T B : zS) : Prop := B.1 73 13 = T.1 73 13 ∧ (∀ c k, (78 ≤ c ∧ c ≤ 81) ∨ c = 89 ∨ (102 ≤ c ∧ c ≤ 107) ∨ c = 117 → B.1 c k = T.1 c k) ∧ ∀ k, B.2 82 k = T.2 82 k
/-- the NAMEs alike: inputs, vars, a for's, a def's -/
def EN (w : Nat) (Av : Nat → Nat → Prop) (S : zS) (cf rf hb hrb : Nat) (A B : zS) : Prop := ∀ e a r z, Av e a → r ≤ 1 → z ≤ 64 → S.1 12 e = nI r → S.1 13 e = nI z →
  (S.1 11 e = 0 → a + max 1 z ≤ 256 ∧ ∀ y, y < max 1 z → A.1 20 (a + y) = B.1 117 (a + y) ∧ ∀ x, x < bw w r → VC B (2 * (B.1 117 (a + y) + nI x))) ∧
  (S.1 11 e = 1 → a + max 1 z ≤ 256 ∧ ∀ y x, y < max 1 z → x < bw w r → A.1 58 ((a + y) * w + x) = B.1 132 (32 * (a + y) + x) ∧ VC B (B.1 132 (32 * (a + y) + x))) ∧
  (S.1 11 e = 2 → ∃ v, v < 2 ^ 32 ∧ A.2 48 e = lN v ∧ B.2 141 a = lN v) ∧
  (S.1 11 e = 3 → cf + a * w + w ≤ hb * w ∧ rf + a < hrb ∧ ∀ x, x < bw w r → A.1 57 (cf + a * w + x) = B.1 122 (32 * (rf + a) + x) ∧ VC B (B.1 122 (32 * (rf + a) + x)))
def XS (w : Nat) (Av : Nat → Nat → Prop) (S T : zS) (cf rf cd hb hrb i hc hr st : Nat) (A B : zS) : Prop :=
  (CCo S A ∧ A.1 3 5 = 0 ∧ A.1 24 7 = 0 ∧ A.1 45 8 = nI (hc * w) ∧ A.1 45 16 = nI i ∧ A.1 45 18 = nI st ∧ A.1 45 13 = nI cf ∧ A.1 45 12 = nI cd) ∧ (MCo T B ∧ B.1 73 85 = nI hr ∧ B.1 73 70 = nI st ∧ B.1 73 110 = nI cd ∧ (0 < cd → B.1 144 (cd - 1) = nI rf)) ∧ RL A B ∧ A.1 45 17 = mPla B ∧ st ≤ 100000 ∧ hb ≤ hc ∧ hrb ≤ hr ∧ EN w Av S cf rf hb hrb A B
/-- an operand alike -/
def OA (w r hc hr : Nat) (A B : zS) : Prop := ∀ x, x < bw w r → A.1 57 (hc * w + x) = B.1 122 (32 * hr + x) ∧ VC B (B.1 122 (32 * hr + x))
def OAs (w : Nat) (os : List Nat) (hc hr : Nat) (A B : zS) : Prop := ∀ t, t < os.length → OA w (os.getD t 0) (hc + t) (hr + t) A B
def PXc (w hc cd : Nat) : Nat → Nat → Prop := fun c k => (c = 45 ∧ (k = 8 ∨ k = 16 ∨ k = 18)) ∨ (51 ≤ c ∧ c ≤ 56) ∨ (c = 57 ∧ hc * w ≤ k) ∨ ((c = 46 ∨ c = 47) ∧ cd ≤ k)
def PXm (hr cd : Nat) : Nat → Nat → Prop := fun c k => (c = 73 ∧ (k = 70 ∨ k = 85)) ∨ ((123 ≤ c ∧ c ≤ 130) ∧ k < 40) ∨ c = 146 ∨ (c = 122 ∧ 32 * hr ≤ k) ∨ ((c = 144 ∨ c = 145) ∧ cd ≤ k)
/-- what BUILD may change at all -/
def KBc (A A' : zS) : Prop := (∀ c k, ¬ (c = 3 ∧ (k = 5 ∨ k = 6)) → ¬ (24 ≤ c ∧ c ≤ 33 ∧ ¬ (c = 24 ∧ k = 8)) → ¬ (45 ≤ c ∧ c ≤ 58) → A'.1 c k = A.1 c k) ∧ ∀ c k, ¬ (c = 48 ∨ c = 49) → A'.2 c k = A.2 c k
def KBm (B B' : zS) : Prop := (∀ c k, ¬ (c = 73 ∧ (k = 7 ∨ k = 8 ∨ (66 ≤ k ∧ k ≤ 70) ∨ (85 ≤ k ∧ k ≤ 112))) → ¬ (111 ≤ c ∧ c ≤ 114) → ¬ (118 ≤ c ∧ c ≤ 146) → B'.1 c k = B.1 c k) ∧ ∀ c k, ¬ (133 ≤ c ∧ c ≤ 146) → B'.2 c k = B.2 c k
/-- both have told the same FAULT -/
def FBT (A B : zS) : Prop := ¬ A.1 3 5 = 0 ∧ B.1 73 7 = A.1 3 5 ∧ B.1 73 8 = A.1 3 6
def ur (S : zS) : Nat → Nat
  | 0 => 0
  | x + 1 => if 34 ≤ S.1 4 x ∧ S.1 4 x ≤ 36 then ur S x + 1 else 0
theorem gd_l {os : List Nat} {r t : Nat} (h : t < os.length) : (os ++ [r]).getD t 0 = os.getD t 0 := by simp [List.getD, List.getElem?_append_left h]
theorem gd_r {os : List Nat} {r : Nat} : (os ++ [r]).getD os.length 0 = r := by simp [List.getD]
section XSL
variable {l : Launch} {Gr : zG} {n w : Nat} {d : Nat} {Av : Nat → Nat → Prop} {S T A A' A1 A2 B B' B1 B2 : zS} {cf rf cd hb hrb i i' hc hr st r : Nat} {os : List Nat} {p : CP (Nat → Int32)}
theorem KBc_rfl : KBc A A := ⟨fun _ _ _ _ _ => rfl, fun _ _ _ => rfl⟩
theorem KBm_rfl : KBm B B := ⟨fun _ _ _ _ _ => rfl, fun _ _ _ => rfl⟩
theorem KBc_tr (h1 : KBc A A1) (h2 : KBc A1 A2) : KBc A A2 := ⟨fun c k q1 q2 q3 => (h2.1 c k q1 q2 q3).trans (h1.1 c k q1 q2 q3), fun c k q => (h2.2 c k q).trans (h1.2 c k q)⟩
theorem KBm_tr (h1 : KBm B B1) (h2 : KBm B1 B2) : KBm B B2 := ⟨fun c k q1 q2 q3 => (h2.1 c k q1 q2 q3).trans (h1.1 c k q1 q2 q3), fun c k q => (h2.2 c k q).trans (h1.2 c k q)⟩
theorem KBc_F (h : FK (PXc w hc cd) A A') : KBc A A' := ⟨fun c k q1 q2 q3 => h.1 c k (by omega) (by omega) (by unfold PXc; omega), fun c k _ => h.2 c k⟩
theorem KBm_F (h : FM (PXm hr cd) B B') : KBm B B' := ⟨fun c k q1 q2 q3 => h.1 c k (by omega) (by omega) (by unfold PXm; omega), fun c k _ => h.2 c k⟩
theorem KBc_T {f pl : Int32} : KBc A (kT A f pl) := by
  unfold kT
  split
  · exact ⟨fun c k q1 q2 q3 => by unfold cF; rw [zi_get, if_neg (by omega), zi_get, if_neg (by omega)], fun _ _ _ => rfl⟩
  · exact KBc_rfl
theorem KBc_E : KBc A (kEnd A) := by
  unfold kEnd
  split
  · exact KBc_rfl
  · exact KBc_T
theorem CCo_K (h : CCo S A) (k : KBc A A') : CCo S A' := ⟨(k.1 3 4 (by omega) (by omega) (by omega)).trans h.1, fun c x q => (k.1 c x (by omega) (by omega) (by omega)).trans (h.2 c x q)⟩
theorem MCo_K (h : MCo T B) (k : KBm B B') : MCo T B' := ⟨(k.1 73 13 (by omega) (by omega) (by omega)).trans h.1, fun c x q => (k.1 c x (by omega) (by omega) (by omega)).trans (h.2.1 c x q), fun x => (k.2 82 x (by omega)).trans (h.2.2 x)⟩
theorem mPla_F (h : FM (PXm hr cd) B B') : mPla B' = mPla B := by
  unfold mPla
  rw [h.1 73 94 (by omega) (by omega) (by unfold PXm; omega), h.1 131 _ (by omega) (by omega) (by unfold PXm; omega)]
theorem FX_tr {hc' : Nat} (h1 : FK (PXc w hc cd) A A1) (h2 : FK (PXc w hc' cd) A1 A2) (h : hc ≤ hc') : FK (PXc w hc cd) A A2 := FK_tr (P'' := PXc w hc cd) h1 h2 (fun _ _ z => z) (fun c k z => by
  have m : hc * w ≤ hc' * w := Nat.mul_le_mul_right _ h
  unfold PXc at z ⊢
  omega)
theorem FXm_tr {hr' : Nat} (h1 : FM (PXm hr cd) B B1) (h2 : FM (PXm hr' cd) B1 B2) (h : hr ≤ hr') : FM (PXm hr cd) B B2 := FM_tr (P'' := PXm hr cd) h1 h2 (fun _ _ z => z) (fun c k z => by
  unfold PXm at z ⊢
  omega)
theorem bw_le (hw1 : 1 ≤ w) : bw w r ≤ w := by unfold bw; split <;> omega
theorem bw_1 (hw1 : 1 ≤ w) : 1 ≤ bw w r := by unfold bw; split <;> omega
theorem EN_k {hc' hr' : Nat} (hw1 : 1 ≤ w) (hw : w ≤ 32) (h : EN w Av S cf rf hb hrb A B) (f : FK (PXc w hc' cd) A A') (g : FM (PXm hr' cd) B B') (v : VM B B') (q1 : hb ≤ hc') (q2 : hrb ≤ hr') : EN w Av S cf rf hb hrb A' B' := by
  have m : hb * w ≤ hc' * w := Nat.mul_le_mul_right _ q1
  intro e a r z h1 h2 h3 h4 h5
  obtain ⟨k0, k1, k2, k3⟩ := h e a r z h1 h2 h3 h4 h5
  have f20 : ∀ x, A'.1 20 x = A.1 20 x := fun x => f.1 20 x (by omega) (by omega) (by unfold PXc; omega)
  have f58 : ∀ x, A'.1 58 x = A.1 58 x := fun x => f.1 58 x (by omega) (by omega) (by unfold PXc; omega)
  have g117 : ∀ x, B'.1 117 x = B.1 117 x := fun x => g.1 117 x (by omega) (by omega) (by unfold PXm; omega)
  have g132 : ∀ x, B'.1 132 x = B.1 132 x := fun x => g.1 132 x (by omega) (by omega) (by unfold PXm; omega)
  refine ⟨fun y => ⟨(k0 y).1, fun u hu => ?_⟩, fun y => ⟨(k1 y).1, fun u x hu hx => ?_⟩, fun y => ?_, fun y => ⟨(k3 y).1, (k3 y).2.1, fun x hx => ?_⟩⟩
  · rw [f20, g117]
    exact ⟨((k0 y).2 u hu).1, fun x hx => v _ (((k0 y).2 u hu).2 x hx)⟩
  · rw [f58, g132]
    exact ⟨((k1 y).2 u x hu hx).1, v _ ((k1 y).2 u x hu hx).2⟩
  · rw [f.2, g.2]
    exact k2 y
  · have b1 := bw_le (w := w) (r := r) hw1
    obtain ⟨l1, l2, l3⟩ := k3 y
    rw [f.1 57 _ (by omega) (by omega) (by unfold PXc; omega), g.1 122 _ (by omega) (by omega) (by unfold PXm; omega)]
    exact ⟨(l3 x hx).1, v _ (l3 x hx).2⟩
theorem XS_k {hc' hr' i' hc2 hr2 st' : Nat} (hw1 : 1 ≤ w) (hw : w ≤ 32) (h : XS w Av S T cf rf cd hb hrb i hc hr st A B) (f : FK (PXc w hc' cd) A A') (g : FM (PXm hr' cd) B B') (v : VM B B') (q1 : hb ≤ hc') (q2 : hrb ≤ hr') (hR : RL A' B') (h7 : A'.1 24 7 = 0) (h8 : A'.1 45 8 = nI (hc2 * w)) (h16 : A'.1 45 16 = nI i') (h18 : A'.1 45 18 = nI st') (h85 : B'.1 73 85 = nI hr2) (h70 : B'.1 73 70 = nI st') (hs : st' ≤ 100000) (q3 : hb ≤ hc2) (q4 : hrb ≤ hr2) : XS w Av S T cf rf cd hb hrb i' hc2 hr2 st' A' B' := by
  obtain ⟨⟨a1, a2, a3, a4, a5, a6, a7, a8⟩, ⟨b1, b2, b3, b4, b5⟩, hRL, hp, hst, hh, hh2, hE⟩ := h
  refine ⟨⟨CCo_K a1 (KBc_F f), (f.1 3 5 (by omega) (by omega) (by unfold PXc; omega)).trans a2, h7, h8, h16, h18, (f.1 45 13 (by omega) (by omega) (by unfold PXc; omega)).trans a7, (f.1 45 12 (by omega) (by omega) (by unfold PXc; omega)).trans a8⟩, ⟨MCo_K b1 (KBm_F g), h85, h70, (g.1 73 110 (by omega) (by omega) (by unfold PXm; omega)).trans b4, fun q => (g.1 144 _ (by omega) (by omega) (by unfold PXm; omega)).trans (b5 q)⟩, hR, ?_, hs, q3, q4, EN_k hw1 hw hE f g v q1 q2⟩
  rw [mPla_F g, f.1 45 17 (by omega) (by omega) (by unfold PXc; omega)]
  exact hp
theorem OA_k {hc' hr' : Nat} (hw1 : 1 ≤ w) (hw : w ≤ 32) (h : OA w r hc hr A B) (f : FK (PXc w hc' cd) A A') (g : FM (PXm hr' cd) B B') (v : VM B B') (q1 : hc < hc') (q2 : hr < hr') : OA w r hc hr A' B' := fun x hx => by
  have m : hc * w + w ≤ hc' * w := by rw [← Nat.succ_mul]; exact Nat.mul_le_mul_right _ q1
  have b1 := bw_le (w := w) (r := r) hw1
  rw [f.1 57 _ (by omega) (by omega) (by unfold PXc; omega), g.1 122 _ (by omega) (by omega) (by unfold PXm; omega)]
  exact ⟨(h x hx).1, v _ (h x hx).2⟩
theorem OAs_k (hw1 : 1 ≤ w) (hw : w ≤ 32) (h : OAs w os hc hr A B) (f : FK (PXc w (hc + os.length) cd) A A') (g : FM (PXm (hr + os.length) cd) B B') (v : VM B B') : OAs w os hc hr A' B' := fun t ht => OA_k hw1 hw (h t ht) f g v (by omega) (by omega)
/-- EXPRs one behind the other: their operands lie there, alike; or the same FAULT -/
def TRg (l : Launch) (Gr : zG) (n w d : Nat) (Av : Nat → Nat → Prop) (S T : zS) (cf rf cd hb hrb : Nat) (os : List Nat) (BD : Nat → Nat → Prop) (i i' j j' hc hr st : Nat) (A : zS) : Prop := ∃ k A', CGo l Gr n w d k A A' ∧ KBc A A' ∧ ((∃ st', st ≤ st' ∧ BD k st' ∧ ∀ B, XS w Av S T cf rf cd hb hrb i hc hr st A B → ∃ B', MGo l Gr n w d B j B' j' ∧ FK (PXc w hc cd) A A' ∧ FM (PXm hr cd) B B' ∧ VM B B' ∧ XS w Av S T cf rf cd hb hrb i' (hc + os.length) (hr + os.length) st' A' B' ∧ OAs w os hc hr A' B') ∨ (k ≤ 120 * (100001 - st) + 60 ∧ ∀ B, XS w Av S T cf rf cd hb hrb i hc hr st A B → ∃ B' j'', MGo l Gr n w d B j B' j'' ∧ KBm B B' ∧ FBT A' B'))
def TRu (l : Launch) (Gr : zG) (n w d : Nat) (Av : Nat → Nat → Prop) (S T : zS) (cf rf cd hb hrb : Nat) (os : List Nat) (ex i i' j j' hc hr st : Nat) (A : zS) : Prop := TRg l Gr n w d Av S T cf rf cd hb hrb os (fun k st' => k + 69 * os.length + ex ≤ 120 * (st' - st)) i i' j j' hc hr st A
/-- one EXPR -/
def TRx (l : Launch) (Gr : zG) (n w d : Nat) (Av : Nat → Nat → Prop) (S T : zS) (cf rf cd hb hrb r i i' j j' hc hr st : Nat) (A : zS) : Prop := TRg l Gr n w d Av S T cf rf cd hb hrb [r] (fun k st' => k + 100 ≤ 120 * (st' - st) + ur S i') i i' j j' hc hr st A
theorem TRu_nil {j : Nat} : TRu l Gr n w d Av S T cf rf cd hb hrb [] 0 i i j j hc hr st A := ⟨0, A, CGo_rfl, KBc_rfl, Or.inl ⟨st, Nat.le_refl _, by show 0 + 69 * 0 + 0 ≤ _; omega, fun B h => ⟨B, MGo_rfl, FK_rfl, FM_rfl, fun _ h => h, h, fun t ht => absurd ht (by show ¬ t < 0; omega)⟩⟩⟩
theorem TRu_app {ex i1 i2 j j1 j2 : Nat} {B0 : zS} (hw1 : 1 ≤ w) (hw : w ≤ 32) (h0 : XS w Av S T cf rf cd hb hrb i hc hr st A B0) (hu : ur S i2 ≤ 30) (h1 : TRu l Gr n w d Av S T cf rf cd hb hrb os ex i i1 j j1 hc hr st A) (h2 : ∀ A1 B1 st1, st ≤ st1 → XS w Av S T cf rf cd hb hrb i1 (hc + os.length) (hr + os.length) st1 A1 B1 → TRx l Gr n w d Av S T cf rf cd hb hrb r i1 i2 j1 j2 (hc + os.length) (hr + os.length) st1 A1) : TRu l Gr n w d Av S T cf rf cd hb hrb (os ++ [r]) (ex + 1) i i2 j j2 hc hr st A := by
  obtain ⟨k1, A1, g1, kb1, ⟨st1, s1, b1, m1⟩ | ⟨b1, m1⟩⟩ := h1
  · obtain ⟨B01, -, -, -, -, x01, -⟩ := m1 B0 h0
    have hst1 := x01.2.2.2.2.1
    obtain ⟨k2, A2, g2, kb2, ⟨st2, s2, b2, m2⟩ | ⟨b2, m2⟩⟩ := h2 A1 B01 st1 s1 x01
    · refine ⟨k1 + k2, A2, CGo_tr g1 g2, KBc_tr kb1 kb2, Or.inl ⟨st2, by omega, ?_, fun B hB => ?_⟩⟩
      · show k1 + k2 + 69 * (os ++ [r]).length + (ex + 1) ≤ _
        have b1 : k1 + 69 * os.length + ex ≤ 120 * (st1 - st) := b1
        have b2 : k2 + 100 ≤ 120 * (st2 - st1) + ur S i2 := b2
        rw [List.length_append, show [r].length = 1 from rfl]
        omega
      · obtain ⟨B1, n1, f1, e1, v1, x1, o1⟩ := m1 B hB
        obtain ⟨B2, n2, f2, e2, v2, x2, o2⟩ := m2 B1 x1
        refine ⟨B2, MGo_tr n1 n2, FX_tr f1 f2 (by omega), FXm_tr e1 e2 (by omega), VM_tr v1 v2, ?_, fun t ht => ?_⟩
        · rw [List.length_append, ← Nat.add_assoc, ← Nat.add_assoc]
          exact x2
        · rw [List.length_append, show [r].length = 1 from rfl] at ht
          by_cases z : t < os.length
          · rw [gd_l z]
            exact OAs_k hw1 hw o1 f2 e2 v2 t z
          · have e : t = os.length := by omega
            subst e
            rw [gd_r]
            exact o2 0 (Nat.succ_pos _)
    · refine ⟨k1 + k2, A2, CGo_tr g1 g2, KBc_tr kb1 kb2, Or.inr ⟨by omega, fun B hB => ?_⟩⟩
      obtain ⟨B1, n1, f1, e1, v1, x1, o1⟩ := m1 B hB
      obtain ⟨B2, j3, n2, kb, fb⟩ := m2 B1 x1
      exact ⟨B2, j3, MGo_tr n1 n2, KBm_tr (KBm_F e1) kb, fb⟩
  · exact ⟨k1, A1, g1, kb1, Or.inr ⟨b1, m1⟩⟩
theorem TRu_le {ex ex' i1 j j1 : Nat} (h : TRu l Gr n w d Av S T cf rf cd hb hrb os ex i i1 j j1 hc hr st A) (hx : ex' ≤ ex) : TRu l Gr n w d Av S T cf rf cd hb hrb os ex' i i1 j j1 hc hr st A := by
  obtain ⟨k1, A1, g1, kb1, ⟨st1, s1, b1, m1⟩ | b1⟩ := h
  · exact ⟨k1, A1, g1, kb1, Or.inl ⟨st1, s1, by
      have b1 : k1 + 69 * os.length + ex ≤ 120 * (st1 - st) := b1
      show k1 + 69 * os.length + ex' ≤ 120 * (st1 - st)
      omega, m1⟩⟩
  · exact ⟨k1, A1, g1, kb1, Or.inr b1⟩
end XSL
