/-! if: the class's cells are all cells; frames with fewer cells -/
section IFQ
variable {w lo g hc sd u nv vw hi : Nat} {e : Int32} {V L R : Nat → Int32} {A A' B B' : zS} {Cx Cx2 : Nat → Prop} {Av : Nat → Nat → Prop} {S : zS}
theorem dmx_all (hlg : lo + g ≤ 256) (h : ∀ k, k < 256 * w → (k < lo * w ∨ lo * w + g * w ≤ k) → V k = L k) : dmxP e V L (256 * w) 0 R = dmxP e V L (g * w) (lo * w) R := by
  have e1 : 256 * w = lo * w + (g * w + (256 - (lo + g)) * w) := by rw [← Nat.add_mul, ← Nat.add_mul]; congr 1; omega
  have m1 : lo * w + g * w ≤ 256 * w := by rw [← Nat.add_mul]; exact Nat.mul_le_mul_right _ hlg
  have h1 : dmxP e V L (lo * w) 0 R = cRet R := dmx_no _ _ _ (fun i _ q2 => h i (by omega) (Or.inl (by omega)))
  have h2 : ∀ R', dmxP e V L ((256 - (lo + g)) * w) (lo * w + g * w) R' = cRet R' := fun R' => dmx_no _ _ _ (fun i q1 q2 => h i (by omega) (Or.inr q1))
  rw [e1, dmx_ad, h1]
  show dmxP e V L (g * w + (256 - (lo + g)) * w) (0 + lo * w) R = _
  rw [Nat.zero_add, dmx_ad, show (fun R' => dmxP e V L ((256 - (lo + g)) * w) (lo * w + g * w) R') = fun R' => cRet R' from funext h2]
  rfl
theorem SF_cx (h : SF w Cx2 Av hc sd u nv vw lo hi A A' B B') (hC : ∀ k, k < vw * w → Cx k → Cx2 k) : SF w Cx Av hc sd u nv vw lo hi A A' B B' := ⟨⟨h.1.1, fun k q q2 => h.1.2.1 k q (q2.elim Or.inl (fun y => y.elim (fun y => Or.inr (Or.inl y)) (fun y => Or.inr (Or.inr (hC k q y))))), h.1.2.2⟩, h.2⟩
/-- cells of no visible var -/
def CXn (w : Nat) (Av : Nat → Nat → Prop) (S : zS) : Nat → Prop := fun k => ∀ e a r z, Av e a → S.1 11 e = 1 → r ≤ 1 → S.1 12 e = nI r → z ≤ 64 → S.1 13 e = nI z → ∀ y x, y < max 1 z → x < bw w r → k ≠ (a + y) * w + x
theorem CXn_o : CXo w Av S (CXn w Av S) := fun e a r z h1 h2 h3 h4 h5 h6 y x hy hx h => h e a r z h1 h2 h3 h4 h5 h6 y x hy hx rfl
theorem CXo_n (h : CXo w Av S Cx) {k : Nat} (hk : Cx k) : CXn w Av S k := fun e a r z h1 h2 h3 h4 h5 h6 y x hy hx q => h e a r z h1 h2 h3 h4 h5 h6 y x hy hx (by rw [← q]; exact hk)
end IFQ
