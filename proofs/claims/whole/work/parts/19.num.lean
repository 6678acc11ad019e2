theorem cl_ex (a b : Nat) (hab : a ≤ b) (hb : b ≤ 100) (p : Int32) : ∃ n : Nat, (a ≤ n ∧ n ≤ b) ∧ ip_max (nI a) (ip_min (nI b) p) = nI n := by
  obtain ⟨c1, c2, c3⟩ := cl_spec (a := nI a) (b := nI b) (p := p) (nI_le hab (by omega)) rfl
  by_cases h1 : nI a ≤ p
  · by_cases h2 : p ≤ nI b
    · obtain ⟨k, hk, rfl⟩ := nI_of2 (M := nI b) (n := b) (nI_toInt (by omega)) (fun q => by
        have q1 := Int32.le_iff_toInt_le.mp h1
        have q2 := Int32.lt_iff_toInt_lt.mp q
        rw [nI_toInt (by omega)] at q1
        have q3 : (0 : Int32).toInt = 0 := rfl
        omega) h2
      exact ⟨k, ⟨(nI_leI (by omega) (by omega)).mp h1, hk⟩, (c3 h1 h2).symm⟩
    · exact ⟨b, ⟨hab, Nat.le_refl _⟩, (c2 h2).symm⟩
  · exact ⟨a, ⟨Nat.le_refl _, hab⟩, (c1 h1).symm⟩
