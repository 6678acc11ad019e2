/-! the parties' rounds, purely: s.1 what flies, s.2 p = (round of p, come of it, come early) -/
def cnt (b : Nat → Bool) : Nat → Nat
  | 0 => 0
  | k + 1 => cnt b k + (if b k = true then 1 else 0)
def sndX (g : Nat → Nat) (t : Nat) : Nat → Nat → List (Nat × Nat × Nat)
  | 0, _ => []
  | c + 1, p => (if p = t then [] else [(t, p, g p)]) ++ sndX g t c (p + 1)
def allX (g : Nat → Nat) (n : Nat) : Nat → Nat → List (Nat × Nat × Nat)
  | 0, _ => []
  | c + 1, p => sndX g p n 0 ++ allX g n c (p + 1)
/-- what holds of rounds and messages -/
def PIv (n Dm : Nat) (s : List (Nat × Nat × Nat) × (Nat → Nat × Nat × Nat)) : Prop := ∃ D E : Nat → Nat → Bool, (∀ p, p < n → (s.2 p).1 ≤ Dm + 2) ∧ (∀ p q, p < n → q < n → (s.2 p).1 ≤ (s.2 q).1 + 1) ∧ (∀ m, m ∈ s.1 → m.1 < n ∧ m.2.1 < n ∧ ¬ m.1 = m.2.1 ∧ m.2.2 ≤ (s.2 m.1).1 ∧ m.2.2 ≤ Dm + 1 ∧ (s.2 m.2.1).1 ≤ m.2.2) ∧ s.1.Nodup ∧ (∀ p, p < n → (s.2 p).2.1 = cnt (D p) n ∧ (s.2 p).2.2 = cnt (E p) n ∧ D p p = false ∧ E p p = false) ∧ (∀ t f, t < n → f < n → D t f = true → (s.2 t).1 ≤ (s.2 f).1 ∧ ¬ (f, t, (s.2 t).1) ∈ s.1) ∧ ∀ t f, t < n → f < n → E t f = true → (s.2 t).1 + 1 ≤ (s.2 f).1 ∧ (s.2 t).1 + 1 ≤ Dm + 1 ∧ ¬ (f, t, (s.2 t).1 + 1) ∈ s.1
/-- t goes on by one round -/
def pStep (n Dm t : Nat) (s : List (Nat × Nat × Nat) × (Nat → Nat × Nat × Nat)) : List (Nat × Nat × Nat) × (Nat → Nat × Nat × Nat) := (if (s.2 t).1 + 1 ≤ Dm + 1 then s.1 ++ sndL t ((s.2 t).1 + 1) n 0 else s.1, fun q => if q = t then ((s.2 t).1 + 1, (s.2 t).2.2, 0) else s.2 q)
/-- t goes on as far as it can: the state, and how many messages it sent -/
def goF (n Dm t : Nat) : Nat → List (Nat × Nat × Nat) × (Nat → Nat × Nat × Nat) → (List (Nat × Nat × Nat) × (Nat → Nat × Nat × Nat)) × Nat
  | 0, s => (s, 0)
  | f + 1, s => if (s.2 t).2.1 = n - 1 ∧ (s.2 t).1 ≤ Dm + 1 then ((goF n Dm t f (pStep n Dm t s)).1, (if (s.2 t).1 + 1 ≤ Dm + 1 then (sndL t ((s.2 t).1 + 1) n 0).length else 0) + (goF n Dm t f (pStep n Dm t s)).2) else (s, 0)
/-- a message from f to t is taken: of t's round, or of the next -/
def pTake (k f t r : Nat) (s : List (Nat × Nat × Nat) × (Nat → Nat × Nat × Nat)) : List (Nat × Nat × Nat) × (Nat → Nat × Nat × Nat) := (s.1.eraseIdx k, fun q => if q = t then (if r = (s.2 t).1 then ((s.2 t).1, (s.2 t).2.1 + 1, (s.2 t).2.2) else ((s.2 t).1, (s.2 t).2.1, (s.2 t).2.2 + 1)) else s.2 q)
section PUR
variable {n Dm t f r k : Nat} {b b' : Nat → Bool} {g : Nat → Nat} {s : List (Nat × Nat × Nat) × (Nat → Nat × Nat × Nat)}
theorem cnt_le : ∀ m, cnt b m ≤ m
  | 0 => Nat.le_refl _
  | m + 1 => by
    have := cnt_le m
    show cnt b m + (if b m = true then 1 else 0) ≤ m + 1
    split <;> omega
theorem cnt_1 (hb : b t = false) : ∀ m, t < m → cnt b m + 1 ≤ m
  | 0, h => absurd h (Nat.not_lt_zero _)
  | m + 1, h => by
    show cnt b m + (if b m = true then 1 else 0) + 1 ≤ m + 1
    by_cases z : t = m
    · rw [← z, hb, if_neg Bool.false_ne_true]
      have := cnt_le (b := b) t
      omega
    · have := cnt_1 hb m (by omega)
      split <;> omega
theorem cnt_2 (hb : b t = false) (hf : b f = false) (hn : ¬ t = f) : ∀ m, t < m → f < m → cnt b m + 2 ≤ m
  | 0, h, _ => absurd h (Nat.not_lt_zero _)
  | m + 1, h, h2 => by
    show cnt b m + (if b m = true then 1 else 0) + 2 ≤ m + 1
    by_cases z : t = m
    · rw [← z, hb, if_neg Bool.false_ne_true]
      have := cnt_1 hf t (by omega)
      omega
    · by_cases z2 : f = m
      · rw [← z2, hf, if_neg Bool.false_ne_true]
        have := cnt_1 hb f (by omega)
        omega
      · have := cnt_2 hb hf hn m (by omega) (by omega)
        split <;> omega
theorem cnt_all (ht : t < n) (hb : b t = false) (h : cnt b n = n - 1) (hf : f < n) (hn : ¬ f = t) : b f = true := by
  cases e : b f with
  | true => rfl
  | false =>
    have := cnt_2 hb e (fun q => hn q.symm) n ht hf
    omega
theorem cnt_cg : ∀ m, (∀ k, k < m → b k = b' k) → cnt b m = cnt b' m
  | 0, _ => rfl
  | m + 1, h => by
    show cnt b m + (if b m = true then 1 else 0) = cnt b' m + (if b' m = true then 1 else 0)
    rw [cnt_cg m (fun k hk => h k (by omega)), h m (by omega)]
theorem cnt_set (hf : b f = false) : ∀ m, f < m → cnt (fun q => if q = f then true else b q) m = cnt b m + 1
  | 0, h => absurd h (Nat.not_lt_zero _)
  | m + 1, h => by
    show cnt (fun q => if q = f then true else b q) m + (if (if m = f then true else b m) = true then 1 else 0) = cnt b m + (if b m = true then 1 else 0) + 1
    by_cases z : m = f
    · rw [if_pos z, if_pos rfl, z, hf, if_neg Bool.false_ne_true]
      rw [cnt_cg (b := fun q => if q = f then true else b q) (b' := b) f (fun k hk => if_neg (by omega))]
    · rw [if_neg z, cnt_set hf m (by omega)]
      omega
theorem cnt_0 : ∀ m, cnt (fun _ => false) m = 0
  | 0 => rfl
  | m + 1 => by
    show cnt (fun _ => false) m + 0 = 0
    rw [cnt_0 m]
theorem sndX_len : ∀ c p, (sndX g t c p).length = c - (if p ≤ t ∧ t < p + c then 1 else 0)
  | 0, p => by
    rw [if_neg (by omega)]
    rfl
  | c + 1, p => by
    show ((if p = t then [] else [(t, p, g p)]) ++ sndX g t c (p + 1)).length = _
    rw [List.length_append, sndX_len c (p + 1)]
    by_cases z : p = t
    · rw [if_pos z, if_neg (by omega), if_pos (by omega)]
      show 0 + _ = _
      omega
    · rw [if_neg z]
      show 1 + _ = _
      by_cases z2 : p ≤ t ∧ t < p + (c + 1)
      · rw [if_pos z2, if_pos (by omega)]
        omega
      · rw [if_neg z2, if_neg (by omega)]
        omega
theorem sndX_mem {q : Nat} : ∀ {c p : Nat}, p ≤ q → q < p + c → ¬ q = t → (t, q, g q) ∈ sndX g t c p
  | 0, p, h1, h2, h3 => by omega
  | c + 1, p, h1, h2, h3 => by
    show (t, q, g q) ∈ (if p = t then [] else [(t, p, g p)]) ++ sndX g t c (p + 1)
    by_cases z : q = p
    · rw [if_neg (by omega), z]
      exact List.mem_append.mpr (Or.inl (List.mem_singleton.mpr rfl))
    · exact List.mem_append.mpr (Or.inr (sndX_mem (by omega) (by omega) h3))
theorem allX_len : ∀ c p, p + c ≤ n → (allX g n c p).length = c * (n - 1)
  | 0, p, _ => by
    rw [Nat.zero_mul]
    rfl
  | c + 1, p, h => by
    show (sndX g p n 0 ++ allX g n c (p + 1)).length = _
    rw [List.length_append, allX_len c (p + 1) (by omega), sndX_len, if_pos (by omega), Nat.succ_mul]
    omega
theorem allX_mem {q : Nat} (hq : q < n) (hn : ¬ q = f) : ∀ {c p : Nat}, p ≤ f → f < p + c → (f, q, g q) ∈ allX g n c p
  | 0, p, h1, h2 => by omega
  | c + 1, p, h1, h2 => by
    show (f, q, g q) ∈ sndX g p n 0 ++ allX g n c (p + 1)
    by_cases z : f = p
    · rw [← z]
      exact List.mem_append.mpr (Or.inl (sndX_mem (by omega) (by omega) hn))
    · exact List.mem_append.mpr (Or.inr (allX_mem hq hn (by omega) (by omega)))
/-- no more than 2 n (n - 1) fly -/
theorem PIv_room (h : PIv n Dm s) : s.1.length ≤ 2 * n * (n - 1) := by
  obtain ⟨D, E, h1, h2, h3, h4, -⟩ := h
  have hs : s.1 ⊆ allX (fun q => (s.2 q).1) n n 0 ++ allX (fun q => (s.2 q).1 + 1) n n 0 := fun m hm => by
    obtain ⟨a1, a2, a3, a4, a5, a6⟩ := h3 m hm
    have a7 := h2 m.1 m.2.1 a1 a2
    obtain ⟨f, q, r⟩ := m
    rw [List.mem_append]
    have hr : r = (s.2 q).1 ∨ r = (s.2 q).1 + 1 := by
      have b4 : r ≤ (s.2 f).1 := a4
      have b6 : (s.2 q).1 ≤ r := a6
      have b7 : (s.2 f).1 ≤ (s.2 q).1 + 1 := a7
      omega
    rcases hr with e | e
    · left
      rw [e]
      exact allX_mem (g := fun q => (s.2 q).1) a2 (fun y => a3 y.symm) (Nat.zero_le _) (by have : f < n := a1; omega)
    · right
      rw [e]
      exact allX_mem (g := fun q => (s.2 q).1 + 1) a2 (fun y => a3 y.symm) (Nat.zero_le _) (by have : f < n := a1; omega)
  have hl := h4.length_le_of_subset hs
  rw [List.length_append, allX_len n 0 (by omega), allX_len n 0 (by omega)] at hl
  have e : 2 * n * (n - 1) = n * (n - 1) + n * (n - 1) := by rw [Nat.mul_assoc, Nat.two_mul]
  omega
theorem PIv_step (ht : t < n) (h : PIv n Dm s) (hc : (s.2 t).2.1 = n - 1) (ha : (s.2 t).1 ≤ Dm + 1) : PIv n Dm (pStep n Dm t s) := by
  obtain ⟨D, E, h1, h2, h3, h4, h5, h6, h7⟩ := h
  obtain ⟨c1, c2, c3, c4⟩ := h5 t ht
  have dA : ∀ f, f < n → ¬ f = t → D t f = true := fun f hf hn => cnt_all ht c3 (by rw [← c1, hc]) hf hn
  have at_t : ((pStep n Dm t s).2 t).1 = (s.2 t).1 + 1 := by
    show (if t = t then ((s.2 t).1 + 1, (s.2 t).2.2, 0) else s.2 t).1 = _
    rw [if_pos rfl]
  have at_n : ∀ q, ¬ q = t → (pStep n Dm t s).2 q = s.2 q := fun q hq => if_neg hq
  have tt : (pStep n Dm t s).2 t = ((s.2 t).1 + 1, (s.2 t).2.2, 0) := if_pos rfl
  have mem : ∀ m, m ∈ (pStep n Dm t s).1 → m ∈ s.1 ∨ (m.1 = t ∧ m.2.2 = (s.2 t).1 + 1 ∧ m.2.1 < n ∧ ¬ m.2.1 = t ∧ (s.2 t).1 + 1 ≤ Dm + 1) := fun m hm => by
    have hm' : m ∈ (if (s.2 t).1 + 1 ≤ Dm + 1 then s.1 ++ sndL t ((s.2 t).1 + 1) n 0 else s.1) := hm
    by_cases z : (s.2 t).1 + 1 ≤ Dm + 1
    · rw [if_pos z] at hm'
      rcases List.mem_append.mp hm' with y | y
      · exact Or.inl y
      · obtain ⟨y1, y2, y3, y4, y5⟩ := sndL_mem y
        exact Or.inr ⟨y1, y2, by omega, y5, z⟩
    · rw [if_neg z] at hm'
      exact Or.inl hm'
  obtain ⟨D', hD1, hD2⟩ : ∃ D' : Nat → Nat → Bool, D' t = E t ∧ ∀ p, ¬ p = t → D' p = D p := ⟨fun p => if p = t then E t else D p, if_pos rfl, fun p z => if_neg z⟩
  obtain ⟨E', hE1, hE2⟩ : ∃ E' : Nat → Nat → Bool, E' t = (fun _ => false) ∧ ∀ p, ¬ p = t → E' p = E p := ⟨fun p => if p = t then (fun _ => false) else E p, if_pos rfl, fun p z => if_neg z⟩
  refine ⟨D', E', fun p hp => ?_, fun p q hp hq => ?_, fun m hm => ?_, ?_, fun p hp => ?_, fun p f hp hf hd => ?_, fun p f hp hf he => ?_⟩
  · by_cases z : p = t
    · rw [z, at_t]
      omega
    · rw [at_n p z]
      exact h1 p hp
  · have hpq := h2 p q hp hq
    by_cases z : p = t
    · by_cases z2 : q = t
      · rw [z, z2]
        omega
      · have := (h6 t q ht hq (dA q hq z2)).1
        rw [z, at_t, at_n q z2]
        omega
    · by_cases z2 : q = t
      · rw [z2] at hpq
        rw [z2, at_t, at_n p z]
        omega
      · rw [at_n p z, at_n q z2]
        exact hpq
  · rcases mem m hm with y | ⟨y1, y2, y3, y4, y5⟩
    · obtain ⟨a1, a2, a3, a4, a5, a6⟩ := h3 m y
      refine ⟨a1, a2, a3, ?_, a5, ?_⟩
      · by_cases z : m.1 = t
        · rw [z] at a4 ⊢
          rw [at_t]
          omega
        · rw [at_n _ z]
          exact a4
      · by_cases z : m.2.1 = t
        · have nn := (h6 t m.1 ht a1 (dA m.1 a1 (fun e => a3 (e.trans z.symm)))).2
          rw [z] at a6 ⊢
          rw [at_t]
          have ne : ¬ m.2.2 = (s.2 t).1 := fun e => nn (by
            have em : (m.1, t, (s.2 t).1) = m := by
              rw [← e, ← z]
            rw [em]
            exact y)
          omega
        · rw [at_n _ z]
          exact a6
    · refine ⟨by rw [y1]; exact ht, y3, fun e => y4 (e.symm.trans y1), by rw [y1, at_t, y2]; exact Nat.le_refl _, by rw [y2]; exact y5, ?_⟩
      rw [at_n _ y4, y2]
      exact h2 m.2.1 t y3 ht
  · show (if (s.2 t).1 + 1 ≤ Dm + 1 then s.1 ++ sndL t ((s.2 t).1 + 1) n 0 else s.1).Nodup
    by_cases z : (s.2 t).1 + 1 ≤ Dm + 1
    · rw [if_pos z]
      refine List.nodup_append.mpr ⟨h4, sndL_nd n 0, fun a ha b hb e => ?_⟩
      obtain ⟨y1, y2, -⟩ := sndL_mem hb
      have a4 := (h3 a ha).2.2.2.1
      rw [e, y1, y2] at a4
      omega
    · rw [if_neg z]
      exact h4
  · by_cases z : p = t
    · rw [z, tt, hD1, hE1]
      exact ⟨c2, (cnt_0 n).symm, c4, rfl⟩
    · obtain ⟨d1, d2, d3, d4⟩ := h5 p hp
      rw [at_n p z, hD2 p z, hE2 p z]
      exact ⟨d1, d2, d3, d4⟩
  · by_cases z : p = t
    · rw [z, hD1] at hd
      rw [z]
      obtain ⟨e1, e2, e3⟩ := h7 t f ht hf hd
      have nf : ¬ f = t := fun y => by
        rw [y, c4] at hd
        exact Bool.false_ne_true hd
      rw [at_t, at_n f nf]
      refine ⟨e1, fun y => ?_⟩
      rcases mem _ y with q | ⟨q1, -⟩
      · exact e3 q
      · exact nf q1
    · rw [hD2 p z] at hd
      obtain ⟨e1, e2⟩ := h6 p f hp hf hd
      rw [at_n p z]
      refine ⟨?_, fun y => ?_⟩
      · by_cases z2 : f = t
        · rw [z2] at e1 ⊢
          rw [at_t]
          omega
        · rw [at_n f z2]
          exact e1
      · rcases mem _ y with q | ⟨q1, q2, -⟩
        · exact e2 q
        · have q1' : f = t := q1
          have q2' : (s.2 p).1 = (s.2 t).1 + 1 := q2
          rw [q1'] at e1
          omega
  · by_cases z : p = t
    · rw [z, hE1] at he
      exact absurd he Bool.false_ne_true
    · rw [hE2 p z] at he
      obtain ⟨e1, e2, e3⟩ := h7 p f hp hf he
      rw [at_n p z]
      refine ⟨?_, e2, fun y => ?_⟩
      · by_cases z2 : f = t
        · rw [z2] at e1 ⊢
          rw [at_t]
          omega
        · rw [at_n f z2]
          exact e1
      · rcases mem _ y with q | ⟨q1, q2, -⟩
        · exact e3 q
        · have q1' : f = t := q1
          have q2' : (s.2 p).1 + 1 = (s.2 t).1 + 1 := q2
          rw [q1'] at e1
          omega
theorem PIv_go (ht : t < n) : ∀ fu s, PIv n Dm s → PIv n Dm (goF n Dm t fu s).1
  | 0, s, h => h
  | fu + 1, s, h => by
    show PIv n Dm (if (s.2 t).2.1 = n - 1 ∧ (s.2 t).1 ≤ Dm + 1 then _ else (s, 0)).1
    by_cases z : (s.2 t).2.1 = n - 1 ∧ (s.2 t).1 ≤ Dm + 1
    · rw [if_pos z]
      exact PIv_go ht fu _ (PIv_step ht h z.1 z.2)
    · rw [if_neg z]
      exact h
end PUR
