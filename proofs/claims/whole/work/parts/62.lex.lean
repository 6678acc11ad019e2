/-! the text's words: what they are, and the class's Words -/
theorem zS_ext {S T : zS} (h1 : ∀ c k, S.1 c k = T.1 c k) (h2 : ∀ c k, S.2 c k = T.2 c k) : S = T :=
  Prod.ext (funext fun c => funext fun k => h1 c k) (funext fun c => funext fun k => h2 c k)
theorem zi_zi {S : zS} {c k : Nat} {u v : Int32} : zi (zi S c k u) c k v = zi S c k v := by
  apply zS_ext
  · intro c' k'
    simp only [zi_get]
    by_cases h : c' = c ∧ k' = k
    · simp [h]
    · simp [h]
  · intro _ _; rfl
theorem zi_id {S : zS} {c k : Nat} {v : Int32} (h : S.1 c k = v) : zi S c k v = S := by
  apply zS_ext
  · intro c' k'
    rw [zi_get]
    by_cases q : c' = c ∧ k' = k
    · rw [if_pos q, q.1, q.2, h]
    · rw [if_neg q]
  · intro _ _; rfl
theorem zi_row {S : zS} {c k c' : Nat} {v : Int32} (h : c' ≠ c) : (zi S c k v).1 c' = S.1 c' := funext fun _ => zi_c h
theorem zi_cm {S : zS} {c k c' k' : Nat} {u v : Int32} (h : c ≠ c' ∨ k ≠ k') : zi (zi S c k u) c' k' v = zi (zi S c' k' v) c k u := by
  apply zS_ext
  · intro a q
    simp only [zi_get]
    by_cases h1 : a = c ∧ q = k
    · by_cases h2 : a = c' ∧ q = k'
      · exfalso
        rcases h with h | h
        · exact h (h1.1.symm.trans h2.1)
        · exact h (h1.2.symm.trans h2.2)
      · simp [h1, h2]
        intro e1 e2
        exact absurd ⟨h1.1.trans e1, h1.2.trans e2⟩ h2
    · simp [h1]
  · intro _ _; rfl
abbrev isd (c : Int32) : Prop := 48 ≤ c ∧ c ≤ 57
abbrev isl (c : Int32) : Prop := (97 ≤ c ∧ c ≤ 122) ∨ (65 ≤ c ∧ c ≤ 90) ∨ c = 95
abbrev isn (c : Int32) : Prop := isl c ∨ isd c
abbrev pd (c : Int32) : Bool := decide (isd c)
abbrev pn (c : Int32) : Bool := decide (isn c)
def rn (P : Int32 → Bool) (b : Nat → Int32) (t : Nat) : Nat → Nat → Nat
  | 0, i => i
  | f + 1, i => if i < t ∧ P (b i) = true then rn P b t f (i + 1) else i
def re (P : Int32 → Bool) (b : Nat → Int32) (t i : Nat) : Nat := rn P b t (t - i) i
section RE
variable {P : Int32 → Bool} {b : Nat → Int32} {t : Nat}
theorem re_s {i : Nat} (h : i < t) (hp : P (b i) = true) : re P b t i = re P b t (i + 1) := by
  unfold re
  rw [show t - i = (t - (i + 1)) + 1 by omega]
  show (if _ then _ else _) = _
  rw [if_pos ⟨h, hp⟩]
theorem re_0 {i : Nat} (h : ¬ (i < t ∧ P (b i) = true)) : re P b t i = i := by
  unfold re
  cases t - i with
  | zero => rfl
  | succ f =>
    show (if _ then _ else _) = _
    rw [if_neg h]
theorem re_all : ∀ (m i : Nat), t - i = m → i ≤ t → i ≤ re P b t i ∧ re P b t i ≤ t ∧ (∀ k, i ≤ k → k < re P b t i → P (b k) = true) ∧ ¬ (re P b t i < t ∧ P (b (re P b t i)) = true)
  | 0, i, h, hi => by
    have : re P b t i = i := re_0 (fun z => by omega)
    rw [this]
    exact ⟨Nat.le_refl _, hi, fun k h1 h2 => by omega, fun z => by omega⟩
  | m + 1, i, h, hi => by
    by_cases q : P (b i) = true
    · have e : re P b t i = re P b t (i + 1) := re_s (by omega) q
      obtain ⟨a1, a2, a3, a4⟩ := re_all m (i + 1) (by omega) (by omega)
      rw [e]
      refine ⟨by omega, a2, fun k h1 h2 => ?_, a4⟩
      by_cases ek : k = i
      · subst ek; exact q
      · exact a3 k (by omega) h2
    · have e : re P b t i = i := re_0 (fun z => q z.2)
      rw [e]
      exact ⟨Nat.le_refl _, hi, fun k h1 h2 => by omega, fun z => q z.2⟩
theorem re_ge {i : Nat} (h : i ≤ t) : i ≤ re P b t i := (re_all _ i rfl h).1
theorem re_le {i : Nat} (h : i ≤ t) : re P b t i ≤ t := (re_all _ i rfl h).2.1
theorem re_gt {i : Nat} (h : i < t) (hp : P (b i) = true) : i < re P b t i := by
  rw [re_s h hp]
  exact re_ge (i := i + 1) (by omega)
end RE
def lgp (b : Nat → Int32) (t : Nat) : Nat → Bool → Nat → Nat
  | 0, _, i => i
  | f + 1, cm, i => if i < t then (if b i = 10 then lgp b t f false (i + 1) else if cm = true ∨ b i = 35 then lgp b t f true (i + 1) else if b i = 32 ∨ b i = 9 then lgp b t f false (i + 1) else i) else i
def gq (b : Nat → Int32) (t : Nat) (cm : Bool) (i : Nat) : Nat := lgp b t (t - i) cm i
abbrev gp (b : Nat → Int32) (t i : Nat) : Nat := gq b t false i
section GP
variable {b : Nat → Int32} {t : Nat}
theorem gq_end {cm : Bool} {i : Nat} (h : ¬ i < t) : gq b t cm i = i := by
  unfold gq
  rw [show t - i = 0 by omega]
  rfl
theorem gq_s {cm : Bool} {i : Nat} (h : i < t) : gq b t cm i = if b i = 10 then gq b t false (i + 1) else if cm = true ∨ b i = 35 then gq b t true (i + 1) else if b i = 32 ∨ b i = 9 then gq b t false (i + 1) else i := by
  unfold gq
  rw [show t - i = (t - (i + 1)) + 1 by omega]
  show (if _ then _ else _) = _
  rw [if_pos h]
theorem gq_nl {cm : Bool} {i : Nat} (h : i < t) (q : b i = 10) : gq b t cm i = gp b t (i + 1) := by rw [gq_s h, if_pos q]
theorem gq_cm {cm : Bool} {i : Nat} (h : i < t) (q : ¬ b i = 10) (q2 : cm = true ∨ b i = 35) : gq b t cm i = gq b t true (i + 1) := by rw [gq_s h, if_neg q, if_pos q2]
theorem gp_bl {i : Nat} (h : i < t) (q : ¬ b i = 10) (q2 : ¬ b i = 35) (q3 : b i = 32 ∨ b i = 9) : gp b t i = gp b t (i + 1) := by rw [gp, gq_s h, if_neg q, if_neg (fun z => z.elim (fun y => Bool.noConfusion y) q2), if_pos q3]
/-- a place where a word begins, or the end -/
def wb (b : Nat → Int32) (t p : Nat) : Prop := p ≤ t ∧ (p < t → ¬ b p = 10 ∧ ¬ b p = 35 ∧ ¬ b p = 32 ∧ ¬ b p = 9)
theorem gp_wb {p : Nat} (h : wb b t p) : gp b t p = p := by
  by_cases q : p < t
  · obtain ⟨a1, a2, a3, a4⟩ := h.2 q
    rw [gp, gq_s q, if_neg a1, if_neg (fun z => z.elim (fun y => Bool.noConfusion y) a2), if_neg (fun z => z.elim a3 a4)]
  · exact gq_end q
theorem gq_all : ∀ (m i : Nat) (cm : Bool), t - i = m → i ≤ t → i ≤ gq b t cm i ∧ wb b t (gq b t cm i)
  | 0, i, cm, h, hi => by
    rw [gq_end (by omega)]
    exact ⟨Nat.le_refl _, hi, fun z => by omega⟩
  | m + 1, i, cm, h, hi => by
    by_cases q : b i = 10
    · rw [gq_nl (by omega) q]
      have := gq_all m (i + 1) false (by omega) (by omega)
      exact ⟨Nat.le_trans (Nat.le_succ i) this.1, this.2⟩
    · by_cases q2 : cm = true ∨ b i = 35
      · rw [gq_cm (by omega) q q2]
        have := gq_all m (i + 1) true (by omega) (by omega)
        exact ⟨Nat.le_trans (Nat.le_succ i) this.1, this.2⟩
      · by_cases q3 : b i = 32 ∨ b i = 9
        · rw [gq_s (by omega), if_neg q, if_neg q2, if_pos q3]
          have := gq_all m (i + 1) false (by omega) (by omega)
          exact ⟨Nat.le_trans (Nat.le_succ i) this.1, this.2⟩
        · rw [gq_s (by omega), if_neg q, if_neg q2, if_neg q3]
          exact ⟨Nat.le_refl _, hi, fun _ => ⟨q, fun z => q2 (Or.inr z), fun z => q3 (Or.inl z), fun z => q3 (Or.inr z)⟩⟩
theorem gp_ge {i : Nat} (h : i ≤ t) : i ≤ gp b t i := (gq_all _ i false rfl h).1
theorem gp_ok {i : Nat} (h : i ≤ t) : wb b t (gp b t i) := (gq_all _ i false rfl h).2
theorem gp_le {i : Nat} (h : i ≤ t) : gp b t i ≤ t := (gp_ok h).1
theorem gp_gp {i : Nat} (h : i ≤ t) : gp b t (gp b t i) = gp b t i := gp_wb (gp_ok h)
end GP
def sk (c x : Int32) : Int32 := if c = x then (if c = 38 then 4 else if c = 60 then 11 else if c = 61 then 5 else if c = 62 then 12 else if c = 124 then 3 else c) else if x = 61 then (if c = 33 then 6 else if c = 60 then 7 else if c = 62 then 8 else c) else c
def wd (b : Nat → Int32) (p e : Nat) : List Int32 := (List.range (e - p)).map fun i => b (p + i)
def kw0 : List Int32 := [105, 110, 112, 117, 116]
def kw1 : List Int32 := [111, 102]
def kw2 : List Int32 := [118, 97, 114]
def kw3 : List Int32 := [100, 101, 102]
def kw4 : List Int32 := [102, 111, 114]
def kw5 : List Int32 := [116, 111]
def kw6 : List Int32 := [105, 102]
def kw7 : List Int32 := [101, 108, 115, 101]
def kw8 : List Int32 := [111, 117, 116, 112, 117, 116]
def kw9 : List Int32 := [105, 110, 116]
def kw10 : List Int32 := [98, 105, 116]
def kw11 : List Int32 := [116, 114, 117, 101]
def kw12 : List Int32 := [102, 97, 108, 115, 101]
def wk (s : List Int32) : Int32 := if s = kw0 then 200 else if s = kw1 then 201 else if s = kw2 then 202 else if s = kw3 then 203 else if s = kw4 then 204 else if s = kw5 then 205 else if s = kw6 then 206 else if s = kw7 then 207 else if s = kw8 then 208 else if s = kw9 then 209 else if s = kw10 then 210 else if s = kw11 then 211 else if s = kw12 then 212 else 1
def nx (b : Nat → Int32) (t p : Nat) : Int32 := if p + 1 < t then b (p + 1) else 0
/-- a word's kind, and where it ends -/
def tk (b : Nat → Int32) (t p : Nat) : Int32 := if p < t then (if isd (b p) then 2 else if isn (b p) then wk (wd b p (re pn b t p)) else sk (b p) (nx b t p)) else 0
def te (b : Nat → Int32) (t p : Nat) : Nat := if p < t then (if isd (b p) then re pd b t p else if isn (b p) then re pn b t p else if sk (b p) (nx b t p) = b p then p + 1 else p + 2) else p
theorem sk_0 (c : Int32) : sk c 0 = c := by
  unfold sk
  by_cases h : c = 0
  · subst h; decide
  · rw [if_neg h, if_neg (by decide)]
theorem te_le {b : Nat → Int32} {t p : Nat} (h : p ≤ t) : te b t p ≤ t := by
  unfold te
  split
  · split
    · exact re_le h
    · split
      · exact re_le h
      · split
        · omega
        · rename_i q1 q2 q3 q4
          by_cases q : p + 1 < t
          · omega
          · exfalso
            apply q4
            unfold nx
            rw [if_neg q, sk_0]
  · exact h
theorem te_gt {b : Nat → Int32} {t p : Nat} (h : p < t) : p < te b t p := by
  unfold te
  rw [if_pos h]
  split
  · rename_i q; exact re_gt h (decide_eq_true q)
  · split
    · rename_i q; exact re_gt h (decide_eq_true q)
    · split <;> omega
theorem te_ge {b : Nat → Int32} {t p : Nat} (h : p ≤ t) : p ≤ te b t p := by
  by_cases q : p < t
  · exact Nat.le_of_lt (te_gt q)
  · unfold te
    rw [if_neg q]
    exact Nat.le_refl _
section LX
variable {l : Launch} {Gr : zG} {n w : Nat} {d : Nat} {S : zS}
theorem w_isDigit {c : Int32} : zMi l Gr (zc n w) 168 M_Words_isDigit d [.int c] S (fun v S' => S' = S ∧ v = if isd c then 1 else 0) :=
  e_Words_isDigit (b_Words_isDigit_0 (fun q => b_Words_isDigit_16 (b_Words_isDigit_17 ⟨_, rfl, Or.inl rfl, rfl, (if_neg (fun z => absurd z.1 (Int32.not_le.mpr q))).symm⟩)) (fun q => b_Words_isDigit_6 (fun q2 => b_Words_isDigit_16 (b_Words_isDigit_17 ⟨_, rfl, Or.inl rfl, rfl, (if_neg (fun z => absurd z.2 (Int32.not_le.mpr q2))).symm⟩)) (fun q2 => b_Words_isDigit_12 (b_Words_isDigit_17 ⟨_, rfl, Or.inr rfl, rfl, (if_pos ⟨Int32.not_lt.mp q, Int32.not_lt.mp q2⟩).symm⟩))))
theorem w_isNameByte {c : Int32} : zMi l Gr (zc n w) 168 M_Words_isNameByte d [.int c] S (fun v S' => S' = S ∧ v = if isn c then 1 else 0) := by
  have y : isn c → zW l Gr (zc n w) 168 M_Words_isNameByte d 42 [none] [] S (fun v S' => ∃ x, v = some (.int x) ∧ (x = 0 ∨ x = 1) ∧ S' = S ∧ x = if isn c then 1 else 0) := fun h => b_Words_isNameByte_42 (b_Words_isNameByte_47 ⟨_, rfl, Or.inr rfl, rfl, (if_pos h).symm⟩)
  have o : ¬ isn c → zW l Gr (zc n w) 168 M_Words_isNameByte d 46 [none] [] S (fun v S' => ∃ x, v = some (.int x) ∧ (x = 0 ∨ x = 1) ∧ S' = S ∧ x = if isn c then 1 else 0) := fun h => b_Words_isNameByte_46 (b_Words_isNameByte_47 ⟨_, rfl, Or.inl rfl, rfl, (if_neg h).symm⟩)
  have h24 : ¬ (97 ≤ c ∧ c ≤ 122) → ¬ (65 ≤ c ∧ c ≤ 90) → zW l Gr (zc n w) 168 M_Words_isNameByte d 24 [some (.int c)] [] S (fun v S' => ∃ x, v = some (.int x) ∧ (x = 0 ∨ x = 1) ∧ S' = S ∧ x = if isn c then 1 else 0) := fun h1 h2 =>
    b_Words_isNameByte_24 (fun q => y (Or.inl (Or.inr (Or.inr q)))) (fun q => b_Words_isNameByte_30 (fun q2 => o (fun z => z.elim (fun z => z.elim h1 (fun z => z.elim h2 q)) (fun z => absurd z.1 (Int32.not_le.mpr q2)))) (fun q2 => b_Words_isNameByte_36 (fun q3 => o (fun z => z.elim (fun z => z.elim h1 (fun z => z.elim h2 q)) (fun z => absurd z.2 (Int32.not_le.mpr q3)))) (fun q3 => y (Or.inr ⟨Int32.not_lt.mp q2, Int32.not_lt.mp q3⟩))))
  have h12 : ¬ (97 ≤ c ∧ c ≤ 122) → zW l Gr (zc n w) 168 M_Words_isNameByte d 12 [some (.int c)] [] S (fun v S' => ∃ x, v = some (.int x) ∧ (x = 0 ∨ x = 1) ∧ S' = S ∧ x = if isn c then 1 else 0) := fun h1 =>
    b_Words_isNameByte_12 (fun q => h24 h1 (fun z => absurd z.1 (Int32.not_le.mpr q))) (fun q => b_Words_isNameByte_18 (fun q2 => y (Or.inl (Or.inr (Or.inl ⟨Int32.not_lt.mp q, q2⟩)))) (fun q2 => h24 h1 (fun z => q2 z.2)))
  exact e_Words_isNameByte (b_Words_isNameByte_0 (fun q => h12 (fun z => absurd z.1 (Int32.not_le.mpr q))) (fun q => b_Words_isNameByte_6 (fun q2 => y (Or.inl (Or.inl ⟨Int32.not_lt.mp q, q2⟩))) (fun q2 => h12 (fun z => q2 z.2))))
theorem w_signKind {c x : Int32} : zMi l Gr (zc n w) 168 M_Words_signKind d [.int c, .int x] S (fun v S' => S' = S ∧ v = sk c x) := by
  refine e_Words_signKind (b_Words_signKind_0 (fun q => b_Words_signKind_70 (fun q2 => b_Words_signKind_78 (fun q3 => b_Words_signKind_89 (fun q4 => b_Words_signKind_100 (fun q5 => b_Words_signKind_111 (b_Words_signKind_112 ⟨_, rfl, rfl, ?_⟩)) (fun q5 => b_Words_signKind_106 (b_Words_signKind_112 ⟨_, rfl, rfl, ?_⟩))) (fun q4 => b_Words_signKind_95 (b_Words_signKind_112 ⟨_, rfl, rfl, ?_⟩))) (fun q3 => b_Words_signKind_84 (b_Words_signKind_112 ⟨_, rfl, rfl, ?_⟩))) (fun q2 => b_Words_signKind_76 ⟨_, rfl, rfl, ?_⟩)) (fun q => b_Words_signKind_5 (fun q2 => b_Words_signKind_58 ⟨_, rfl, rfl, ?_⟩) (fun q2 => b_Words_signKind_62 ⟨_, rfl, rfl, ?_⟩) (fun q2 => b_Words_signKind_60 ⟨_, rfl, rfl, ?_⟩) (fun q2 => b_Words_signKind_65 ⟨_, rfl, rfl, ?_⟩) (fun q2 => b_Words_signKind_56 ⟨_, rfl, rfl, ?_⟩) (fun q2 q3 q4 q5 q6 => b_Words_signKind_68 ⟨_, rfl, rfl, ?_⟩)))
  · unfold sk; rw [if_neg q, if_pos q2, if_neg q3, if_neg q4, if_neg q5]
  · unfold sk; rw [if_neg q, if_pos q2, if_neg q3, if_neg q4, if_pos q5]
  · unfold sk; rw [if_neg q, if_pos q2, if_neg q3, if_pos q4]
  · unfold sk; rw [if_neg q, if_pos q2, if_pos q3]
  · unfold sk; rw [if_neg q, if_neg q2]
  · unfold sk; rw [if_pos q, if_pos q2]
  · unfold sk; rw [if_pos q, if_neg (by rw [q2]; decide), if_pos q2]
  · unfold sk; rw [if_pos q, if_neg (by rw [q2]; decide), if_neg (by rw [q2]; decide), if_pos q2]
  · unfold sk; rw [if_pos q, if_neg (by rw [q2]; decide), if_neg (by rw [q2]; decide), if_neg (by rw [q2]; decide), if_pos q2]
  · unfold sk; rw [if_pos q, if_neg (by rw [q2]; decide), if_neg (by rw [q2]; decide), if_neg (by rw [q2]; decide), if_neg (by rw [q2]; decide), if_pos q2]
  · unfold sk; rw [if_pos q, if_neg q2, if_neg q3, if_neg q4, if_neg q5, if_neg q6]
theorem wx_skip {b : Nat → Int32} {t : Nat} (ht : t ≤ 4000) {Q : Option Value → zS → Prop} : ∀ (m i : Nat) (cm : Bool) (S : zS), t - i = m → i ≤ t → S.1 2 = b → S.1 38 1 = nI t → S.1 38 4 = nI i → Q none (zi S 38 4 (nI (gq b t cm i))) → zW l Gr (zc n w) 168 M_Words_skipBlanks d 2 [some (.ref 70), some (.int (if cm = true then 1 else 0)), none] [] S Q
  | 0, i, cm, S, h, hi, hb, h1, h4, k => b_Words_skipBlanks_2 (fun q => b_Words_skipBlanks_81 (by
      rw [gq_end (by omega), zi_id h4] at k
      exact k)) (fun q => by rw [h1, h4] at q; exact absurd (nI_le (by omega) (by omega)) q)
  | m + 1, i, cm, S, h, hi, hb, h1, h4, k => b_Words_skipBlanks_2 (fun q => by rw [h1, h4] at q; exact absurd q (nI_ge (by omega) (by omega))) (fun q => by
      have hin : vp_in (S.1 38 4) 4000 := by rw [h4]; exact vp_in_nI (by omega) (by omega)
      have ei : S.1 2 ((S.1 38 4).toNatClampNeg) = b i := by rw [h4, nI_clamp (by omega), hb]
      have nxt : ∀ cm' : Bool, gq b t cm i = gq b t cm' (i + 1) → ∀ x : Int32, x = (if cm' = true then 1 else 0) → zW l Gr (zc n w) 168 M_Words_skipBlanks d 68 [some (.ref 70), some (.int x), none] [] S Q := fun cm' e x hx => by
        rw [hx]
        refine b_Words_skipBlanks_68 ?_
        rw [h4, nI_1]
        refine wx_skip (b := b) ht m (i + 1) cm' (zi S 38 4 (nI (i + 1))) (by omega) (by omega) (by rw [zi_row (by decide)]; exact hb) (by rw [zi_k (by decide)]; exact h1) zi_v ?_
        rw [zi_zi, ← e]
        exact k
      refine b_Words_skipBlanks_13 hin (fun q10 => ?_) (fun q10 => ?_)
      · rw [ei] at q10 ⊢
        refine b_Words_skipBlanks_43 (b_Words_skipBlanks_44 (fun z => absurd rfl z) (fun _ => b_Words_skipBlanks_49 (fun z => absurd (q10.symm.trans z) (by decide)) (fun _ => b_Words_skipBlanks_55 (fun z => absurd (q10.symm.trans z) (by decide)) (fun _ => b_Words_skipBlanks_61 (fun _ => nxt false (gq_nl (by omega) q10) _ rfl) (fun z => absurd q10 z)))))
      · rw [ei] at q10 ⊢
        have hc : (cm = true ∨ b i = 35) → zW l Gr (zc n w) 168 M_Words_skipBlanks d 39 [some (.ref 70), none, some (.int (b i))] [] S Q := fun z => b_Words_skipBlanks_39 (b_Words_skipBlanks_44 (fun _ => nxt true (gq_cm (by omega) q10 z) _ rfl) (fun z => absurd z (by decide)))
        cases hcm : cm with
        | true => exact b_Words_skipBlanks_29 (fun _ => hc (Or.inl hcm)) (fun z => absurd z (by decide))
        | false =>
          subst hcm
          refine b_Words_skipBlanks_29 (fun z => absurd rfl z) (fun _ => b_Words_skipBlanks_33 (fun q35 => ?_) (fun q35 => hc (Or.inr q35)))
          have hbl : (b i = 32 ∨ b i = 9) → gq b t false i = gq b t false (i + 1) := fun z => gp_bl (by omega) q10 q35 z
          refine b_Words_skipBlanks_43 (b_Words_skipBlanks_44 (fun z => absurd rfl z) (fun _ => b_Words_skipBlanks_49 (fun z => nxt false (hbl (Or.inl z)) _ rfl) (fun q32 => b_Words_skipBlanks_55 (fun z => nxt false (hbl (Or.inr z)) _ rfl) (fun q9 => b_Words_skipBlanks_61 (fun z => absurd z q10) (fun _ => b_Words_skipBlanks_67 ?_)))))
          have : gq b t false i = i := gp_wb ⟨hi, fun _ => ⟨q10, q35, q32, q9⟩⟩
          rw [this, zi_id h4] at k
          exact k)
theorem w_skipBlanks {b : Nat → Int32} {t i : Nat} (ht : t ≤ 4000) (hi : i ≤ t) (hb : S.1 2 = b) (h1 : S.1 38 1 = nI t) (h4 : S.1 38 4 = nI i) : zMv l Gr (zc n w) 168 M_Words_skipBlanks d [.ref 70] S (fun S' => S' = zi S 38 4 (nI (gp b t i))) :=
  e_Words_skipBlanks (b_Words_skipBlanks_0 (wx_skip ht _ i false S rfl hi hb h1 h4 ⟨rfl, rfl⟩))
theorem wx_dig (hg : ip_gk (lg_tbl, vwCl, Gr)) {b : Nat → Int32} {t : Nat} (ht : t ≤ 4000) {Q : Option Value → zS → Prop} : ∀ (m i : Nat) (S : zS), t - i = m → i ≤ t → S.1 2 = b → S.1 38 1 = nI t → S.1 38 4 = nI i → zW l Gr (zc n w) 168 M_Words_advance (d + 1) 85 [some (.ref 70), none] [] (zi S 38 4 (nI (re pd b t i))) Q → zW l Gr (zc n w) 168 M_Words_advance (d + 1) 46 [some (.ref 70), none] [] S Q
  | 0, i, S, h, hi, hb, h1, h4, k => b_Words_advance_46 (fun q => by
      rw [re_0 (fun z => by omega), zi_id h4] at k
      exact k) (fun q => by rw [h1, h4] at q; exact absurd (nI_le (by omega) (by omega)) q)
  | m + 1, i, S, h, hi, hb, h1, h4, k => b_Words_advance_46 (fun q => by rw [h1, h4] at q; exact absurd q (nI_ge (by omega) (by omega))) (fun q => by
      have ei : S.1 2 ((S.1 38 4).toNatClampNeg) = b i := by rw [h4, nI_clamp (by omega), hb]
      refine b_Words_advance_57 hg (by rw [h4]; exact vp_in_nI (by omega) (by omega)) w_isDigit (fun v S' hv => ?_)
      obtain ⟨e0, hv⟩ := hv
      rw [e0]
      rw [ei] at hv
      by_cases qd : isd (b i)
      · rw [if_pos qd] at hv
        subst hv
        refine b_Words_advance_69 (fun z => absurd z (by decide)) (fun _ => b_Words_advance_72 ?_)
        rw [h4, nI_1]
        refine wx_dig (b := b) hg ht m (i + 1) _ (by omega) (by omega) (by rw [zi_row (by decide)]; exact hb) (by rw [zi_k (by decide)]; exact h1) zi_v ?_
        rw [zi_zi, ← re_s (by omega) (decide_eq_true qd)]
        exact k
      · rw [if_neg qd] at hv
        subst hv
        refine b_Words_advance_69 (fun _ => ?_) (fun z => absurd rfl z)
        rw [re_0 (fun z => qd (of_decide_eq_true z.2)), zi_id h4] at k
        exact k)
theorem wx_nam (hg : ip_gk (lg_tbl, vwCl, Gr)) {b : Nat → Int32} {t : Nat} (ht : t ≤ 4000) {Q : Option Value → zS → Prop} : ∀ (m i : Nat) (S : zS), t - i = m → i ≤ t → S.1 2 = b → S.1 38 1 = nI t → S.1 38 4 = nI i → zW l Gr (zc n w) 168 M_Words_advance (d + 1) 139 [some (.ref 70), none] [] (zi S 38 4 (nI (re pn b t i))) Q → zW l Gr (zc n w) 168 M_Words_advance (d + 1) 100 [some (.ref 70), none] [] S Q
  | 0, i, S, h, hi, hb, h1, h4, k => b_Words_advance_100 (fun q => by
      rw [re_0 (fun z => by omega), zi_id h4] at k
      exact k) (fun q => by rw [h1, h4] at q; exact absurd (nI_le (by omega) (by omega)) q)
  | m + 1, i, S, h, hi, hb, h1, h4, k => b_Words_advance_100 (fun q => by rw [h1, h4] at q; exact absurd q (nI_ge (by omega) (by omega))) (fun q => by
      have ei : S.1 2 ((S.1 38 4).toNatClampNeg) = b i := by rw [h4, nI_clamp (by omega), hb]
      refine b_Words_advance_111 hg (by rw [h4]; exact vp_in_nI (by omega) (by omega)) w_isNameByte (fun v S' hv => ?_)
      obtain ⟨e0, hv⟩ := hv
      rw [e0]
      rw [ei] at hv
      by_cases qd : isn (b i)
      · rw [if_pos qd] at hv
        subst hv
        refine b_Words_advance_123 (fun z => absurd z (by decide)) (fun _ => b_Words_advance_126 ?_)
        rw [h4, nI_1]
        refine wx_nam (b := b) hg ht m (i + 1) _ (by omega) (by omega) (by rw [zi_row (by decide)]; exact hb) (by rw [zi_k (by decide)]; exact h1) zi_v ?_
        rw [zi_zi, ← re_s (by omega) (decide_eq_true qd)]
        exact k
      · rw [if_neg qd] at hv
        subst hv
        refine b_Words_advance_123 (fun _ => ?_) (fun z => absurd rfl z)
        rw [re_0 (fun z => qd (of_decide_eq_true z.2)), zi_id h4] at k
        exact k)
end LX
