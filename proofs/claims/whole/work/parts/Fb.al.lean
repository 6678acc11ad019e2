/-! what holds between the calls (all but truth's memo) -/
def iAl (n w : Nat) (S : zS) : Prop := iRT S ∧ iDR S ∧ iBt n w S ∧ iDl n w S ∧ S.1 3 5 = S.1 73 7 ∧ (¬ S.1 3 5 = 0 → S.1 3 6 = S.1 73 8)
/-- cells that a deal's and a circuit's parts are read from -/
def dlR (c k : Nat) : Prop := (c = 0 ∧ (k = 14 ∨ k = 15)) ∨ (17 ≤ c ∧ c ≤ 20) ∨ c = 22 ∨ c = 23 ∨ (24 ≤ c ∧ c ≤ 32) ∨ (c = 45 ∧ k = 18) ∨ (61 ≤ c ∧ c ≤ 72) ∨ (c = 73 ∧ (k = 7 ∨ (65 ≤ k ∧ k ≤ 70) ∨ k = 75 ∨ k = 83 ∨ k = 124 ∨ k = 139 ∨ k = 140 ∨ k = 145)) ∨ (111 ≤ c ∧ c ≤ 117) ∨ c = 120 ∨ c = 121 ∨ (151 ≤ c ∧ c ≤ 167)
section IAL
variable {l : Launch} {Gr : zG} {n w d : Nat} {S S' : zS}
theorem iRT_fr (h : iRT S) (hf : ∀ c k, (c = 0 ∧ k = 4) ∨ c = 1 ∨ c = 2 ∨ (c = 73 ∧ k = 5) ∨ c = 74 ∨ c = 75 → S'.1 c k = S.1 c k) : iRT S' := by
  obtain ⟨t, ht, a1, a2, a3, a4⟩ := h
  exact ⟨t, ht, by rw [hf 0 4 (by omega)]; exact a1, by rw [hf 73 5 (by omega)]; exact a2, fun k hk => by rw [hf 1 k (by omega), hf 74 k (by omega)]; exact a3 k hk, fun k hk => by rw [hf 2 k (by omega), hf 75 k (by omega)]; exact a4 k hk⟩
theorem iDR_fr (h : iDR S) (hf : ∀ c k, c = 59 ∨ c = 60 ∨ (c = 73 ∧ (120 ≤ k ∧ k ≤ 122)) ∨ c = 150 → S'.1 c k = S.1 c k) : iDR S' := by
  obtain ⟨q, f, hq, hf', a1, a0, a2, a3, a4, a5⟩ := h
  exact ⟨q, f, hq, hf', by rw [hf 59 2 (by omega)]; exact a1, by rw [hf 59 3 (by omega)]; exact a0, by rw [hf 73 121 (by omega)]; exact a2, by rw [hf 73 122 (by omega)]; exact a3, fun k hk => by rw [hf 60 k (by omega), hf 150 _ (by omega)]; exact a4 k hk, by rw [hf 59 4 (by omega), hf 73 120 (by omega)]; exact a5⟩
theorem iPo_fr (h : iPo n S) (hf : ∀ c k, dlR c k → S'.1 c k = S.1 c k) : iPo n S' := by
  obtain ⟨Dm, own, av, ob, s, lg, hD, ⟨h6, h23, h30, no, hno, h11, h31⟩, ⟨m68, m167, m155, m145⟩, hP, hG, ⟨⟨p1, p2⟩, p3⟩, ⟨⟨q1, q2⟩, q3⟩, g1, g2, h12, hdl⟩ := h
  have r : ∀ c k, dlR c k → S'.1 c k = S.1 c k := hf
  refine ⟨Dm, own, av, ob, s, lg, hD, ⟨by rw [r 24 6 (by unfold dlR; omega)]; exact h6, fun q hq => by rw [r 23 q (by unfold dlR; omega)]; exact h23 q hq, fun x y1 y2 => by rw [r 30 _ (by unfold dlR; omega), r 30 _ (by unfold dlR; omega)]; exact h30 x y1 y2, no, hno, by rw [r 24 11 (by unfold dlR; omega)]; exact h11, by rw [r 31 no (by unfold dlR; omega)]; exact h31⟩, ⟨by rw [r 73 68 (by unfold dlR; omega)]; exact m68, fun q hq => by rw [r 167 q (by unfold dlR; omega)]; exact m167 q hq, fun x y1 y2 => by rw [r 155 _ (by unfold dlR; omega), r 155 _ (by unfold dlR; omega)]; exact m155 x y1 y2, by rw [r 73 145 (by unfold dlR; omega)]; exact m145⟩, hP, hG, ⟨⟨by rw [r 65 10 (by unfold dlR; omega)]; exact p1, fun k m hk => by rw [r 71 k (by unfold dlR; omega)]; exact p2 k m hk⟩, fun p hp => by rw [r 66 p (by unfold dlR; omega), r 69 p (by unfold dlR; omega), r 70 p (by unfold dlR; omega)]; exact p3 p hp⟩, ⟨⟨by rw [r 73 139 (by unfold dlR; omega)]; exact q1, fun k m hk => by rw [r 164 k (by unfold dlR; omega), r 165 k (by unfold dlR; omega), r 166 k (by unfold dlR; omega)]; exact q2 k m hk⟩, fun p hp => by rw [r 157 p (by unfold dlR; omega), r 158 p (by unfold dlR; omega), r 159 p (by unfold dlR; omega)]; exact q3 p hp⟩, fun p hp => ?_, fun p hp => ?_, by rw [r 65 12 (by unfold dlR; omega)]; exact h12, by rw [r 65 11 (by unfold dlR; omega), r 73 140 (by unfold dlR; omega)]; exact hdl⟩
  · obtain ⟨y1, y2, y3⟩ := g1 p hp
    exact ⟨by rw [r 67 p (by unfold dlR; omega)]; exact y1, by rw [r 68 p (by unfold dlR; omega)]; exact y2, fun j m hj => by rw [r 72 _ (by unfold dlR; omega)]; exact y3 j m hj⟩
  · obtain ⟨y1, y2, y3⟩ := g2 p hp
    exact ⟨by rw [r 160 p (by unfold dlR; omega)]; exact y1, by rw [r 161 p (by unfold dlR; omega)]; exact y2, fun j m hj => by rw [r 162 _ (by unfold dlR; omega), r 163 _ (by unfold dlR; omega)]; exact y3 j m hj⟩
theorem iSh_fr (h : iSh S) (hf : ∀ c k, (c = 17 ∧ k = 6) ∨ c = 19 ∨ c = 22 ∨ (c = 24 ∧ (k = 4 ∨ k = 8)) ∨ (61 ≤ c ∧ c ≤ 64) ∨ c = 111 ∨ (151 ≤ c ∧ c ≤ 154) → S'.1 c k = S.1 c k) (h2 : ∀ a, S'.2 119 a = S.2 119 a) : iSh S' := by
  obtain ⟨G, wb, iw, vm, k1, k2, k3, k4, k5, k6, k7, k8, k9, k10⟩ := h
  have eB : iB S' = iB S := funext fun a => by unfold iB; rw [hf 19 a (by omega)]
  have eN : ∀ m, aNb S' m = aNb S m := aNb_cg (fun g => hf 111 g (by omega))
  refine ⟨G, wb, iw, vm, k1, k2, k3, by rw [hf 24 4 (by omega)]; exact k4, by rw [hf 24 8 (by omega)]; exact k5, by rw [hf 17 6 (by omega)]; exact k6, by rw [eB]; exact k7, fun k hk => by rw [hf 64 k (by omega), hf 151 k (by omega)]; exact k8 k hk, fun g hg ha => ?_, fun a ha => ?_⟩
  · rw [eN g, hf 61 _ (by omega), hf 62 _ (by omega), hf 63 _ (by omega), hf 152 g (by omega), hf 153 g (by omega), hf 154 g (by omega)]
    exact k9 g hg (by rw [← hf 111 g (by omega)]; exact ha)
  · obtain ⟨b1, b2, b3, b4⟩ := k10 a ha
    rw [eB]
    exact ⟨b1, by rw [hf 22 a (by omega)]; exact b2, by rw [h2 a]; exact b3, fun j hj => by rw [hf 64 _ (by omega)]; exact b4 j hj⟩
theorem iCk_fd (h : iCk n w S) (hf : ∀ c k, dlR c k → S'.1 c k = S.1 c k) (h21 : ∀ a bt, (bt = 1 ∨ bt = w) → S.1 19 a = nI bt → IVa bt (S.1 21 a) (S.2 118 a) → IVa bt (S'.1 21 a) (S'.2 118 a)) : iCk n w S' :=
  iCk_fr h (fun c k q => hf c k (by unfold dlR; omega)) h21
theorem iBt_fr (h : iBt n w S) (hf : ∀ c k, dlR c k → S'.1 c k = S.1 c k) (h21 : ∀ a bt, (bt = 1 ∨ bt = w) → S.1 19 a = nI bt → IVa bt (S.1 21 a) (S.2 118 a) → IVa bt (S'.1 21 a) (S'.2 118 a)) : iBt n w S' := by
  rcases h with ⟨h1, h2, h3, h4, h5⟩ | ⟨h1, h2, h3⟩
  · exact Or.inl ⟨by rw [hf 0 14 (by unfold dlR; omega)]; exact h1, by rw [hf 73 83 (by unfold dlR; omega)]; exact h2, by rw [hf 17 6 (by unfold dlR; omega)]; exact h3, by rw [hf 0 15 (by unfold dlR; omega)]; exact h4, by rw [hf 73 124 (by unfold dlR; omega)]; exact h5⟩
  · exact Or.inr ⟨by rw [hf 0 14 (by unfold dlR; omega)]; exact h1, by rw [hf 73 83 (by unfold dlR; omega)]; exact h2, iCk_fd h3 hf h21⟩
theorem iDl_fr (h : iDl n w S) (hf : ∀ c k, dlR c k → S'.1 c k = S.1 c k) (h21 : ∀ a bt, (bt = 1 ∨ bt = w) → S.1 19 a = nI bt → IVa bt (S.1 21 a) (S.2 118 a) → IVa bt (S'.1 21 a) (S'.2 118 a)) (h2 : ∀ a, S'.2 119 a = S.2 119 a) : iDl n w S' := by
  rcases h with ⟨h1, h3, h4, h5⟩ | ⟨h1, h3, h4, h5, h6, h7, h8⟩
  · exact Or.inl ⟨by rw [hf 0 15 (by unfold dlR; omega)]; exact h1, by rw [hf 73 124 (by unfold dlR; omega)]; exact h3, by rw [hf 73 139 (by unfold dlR; omega)]; exact h4, by rw [hf 73 140 (by unfold dlR; omega)]; exact h5⟩
  · exact Or.inr ⟨by rw [hf 0 15 (by unfold dlR; omega)]; exact h1, by rw [hf 73 124 (by unfold dlR; omega)]; exact h3, by rw [hf 0 14 (by unfold dlR; omega)]; exact h4, by rw [hf 73 83 (by unfold dlR; omega)]; exact h5, iCk_fd h6 hf h21, iPo_fr h7 hf, iSh_fr h8 (fun c k q => hf c k (by unfold dlR; omega)) h2⟩
theorem iCt_d (hn : n ≤ 16) (h : iDl n w S) : iCt n S := by
  rcases h with ⟨h1, h2, h3, h4⟩ | ⟨h1, h2, h3, h4, h5, ⟨Dm, own, av, ob, s, lg, ⟨hD, hB⟩, n1, n2, hP, hG, p1, p2, g1, g2, h12, h11⟩, h7⟩
  · exact Or.inl ⟨h1, h2, h3, h4⟩
  · refine Or.inr ⟨h1, h2, p1.1.1.trans p2.1.1.symm, h11, ?_, h3⟩
    rw [h12]
    congr 1
    have e : ∀ m, m ≤ n → dnF Dm s m = dnN S m := fun m => by
      induction m with
      | zero => exact fun _ => rfl
      | succ m ih =>
        intro hm
        show dnF Dm s m + (if (s.2 m).1 = Dm + 2 then 1 else 0) = dnN S m + (if S.1 157 m = S.1 73 68 + 2 then 1 else 0)
        rw [ih (by omega), (p2.2 m (by omega)).1, n2.1, show nI Dm + 2 = nI (Dm + 2) from nI_add _ 2]
        have hb := (PIv_le hP (t := m) (by omega)).1
        by_cases z : (s.2 m).1 = Dm + 2
        · rw [if_pos z, if_pos (by rw [z])]
        · rw [if_neg z, if_neg (fun y => z ((nI_eq (by omega) (by omega)).mp y))]
    exact e n (Nat.le_refl _)
theorem iLk_d (h : iAl n w S) : iLk S := by
  obtain ⟨-, ⟨q, f, hq, hf, a1, a0, a2, a3, a4, a5⟩, -, -, h1, h2⟩ := h
  exact ⟨h1, h2, by rw [a1, a2], a5⟩
/-- cells that feed, end, draws, seed, deliver, rush may change -/
def frE (c k : Nat) : Prop := (c = 0 ∧ k = 4) ∨ c = 1 ∨ c = 2 ∨ c = 59 ∨ c = 60 ∨ (65 ≤ c ∧ c ≤ 72) ∨ (c = 73 ∧ (k = 5 ∨ (120 ≤ k ∧ k ≤ 122) ∨ k = 131 ∨ k = 139 ∨ k = 140)) ∨ c = 74 ∨ c = 75 ∨ c = 150 ∨ (157 ≤ c ∧ c ≤ 166)
theorem al_rt (h : iAl n w S) (hR : iRT S') (hf : ∀ c k, ¬ ((c = 0 ∧ k = 4) ∨ c = 1 ∨ c = 2 ∨ (c = 73 ∧ k = 5) ∨ c = 74 ∨ c = 75) → S'.1 c k = S.1 c k) (h2 : ∀ c k, S'.2 c k = S.2 c k) : iAl n w S' := by
  obtain ⟨-, h3, h4, h5, h6, h7⟩ := h
  have fd : ∀ c k, dlR c k → S'.1 c k = S.1 c k := fun c k q => hf c k (by unfold dlR at q; omega)
  have h21 : ∀ a bt, (bt = 1 ∨ bt = w) → S.1 19 a = nI bt → IVa bt (S.1 21 a) (S.2 118 a) → IVa bt (S'.1 21 a) (S'.2 118 a) := fun a bt _ _ q => by rw [hf 21 a (by omega), h2]; exact q
  exact ⟨hR, iDR_fr h3 (fun c k q => hf c k (by omega)), iBt_fr h4 fd h21, iDl_fr h5 fd h21 (fun a => h2 119 a), by rw [hf 3 5 (by omega), hf 73 7 (by omega)]; exact h6, by rw [hf 3 5 (by omega), hf 3 6 (by omega), hf 73 8 (by omega)]; exact h7⟩
theorem al_dr (h : iAl n w S) (hR : iDR S') (hf : ∀ c k, ¬ (c = 59 ∨ c = 60 ∨ (c = 73 ∧ (120 ≤ k ∧ k ≤ 122)) ∨ c = 150) → S'.1 c k = S.1 c k) (h2 : ∀ c k, S'.2 c k = S.2 c k) : iAl n w S' := by
  obtain ⟨h3, -, h4, h5, h6, h7⟩ := h
  have fd : ∀ c k, dlR c k → S'.1 c k = S.1 c k := fun c k q => hf c k (by unfold dlR at q; omega)
  have h21 : ∀ a bt, (bt = 1 ∨ bt = w) → S.1 19 a = nI bt → IVa bt (S.1 21 a) (S.2 118 a) → IVa bt (S'.1 21 a) (S'.2 118 a) := fun a bt _ _ q => by rw [hf 21 a (by omega), h2]; exact q
  exact ⟨iRT_fr h3 (fun c k q => hf c k (by omega)), hR, iBt_fr h4 fd h21, iDl_fr h5 fd h21 (fun a => h2 119 a), by rw [hf 3 5 (by omega), hf 73 7 (by omega)]; exact h6, by rw [hf 3 5 (by omega), hf 3 6 (by omega), hf 73 8 (by omega)]; exact h7⟩
theorem al_rs (h : iAl n w S) (h15 : S.1 0 15 = 1) (hP : iPo n S') (hf : FRs S S') : iAl n w S' := by
  obtain ⟨h3, h3', h4, h5, h6, h7⟩ := h
  obtain ⟨f1, f2⟩ := hf
  have h21 : ∀ a bt, (bt = 1 ∨ bt = w) → S.1 19 a = nI bt → IVa bt (S.1 21 a) (S.2 118 a) → IVa bt (S'.1 21 a) (S'.2 118 a) := fun a bt _ _ q => by rw [f1 21 a (by omega) (by omega) (by omega) (by omega), f2]; exact q
  have ck : iCk n w S → iCk n w S' := fun q => iCk_fr q (fun c k z => f1 c k (by omega) (by omega) (by omega) (by omega)) h21
  refine ⟨iRT_fr h3 (fun c k q => f1 c k (by omega) (by omega) (by omega) (by omega)), iDR_fr h3' (fun c k q => f1 c k (by omega) (by omega) (by omega) (by omega)), ?_, ?_, by rw [f1 3 5 (by omega) (by omega) (by omega) (by omega), f1 73 7 (by omega) (by omega) (by omega) (by omega)]; exact h6, by rw [f1 3 5 (by omega) (by omega) (by omega) (by omega), f1 3 6 (by omega) (by omega) (by omega) (by omega), f1 73 8 (by omega) (by omega) (by omega) (by omega)]; exact h7⟩
  · rcases h4 with ⟨a1, a2, a3, a4, a5⟩ | ⟨a1, a2, a3⟩
    · rw [h15] at a4
      exact absurd a4 (by decide)
    · exact Or.inr ⟨by rw [f1 0 14 (by omega) (by omega) (by omega) (by omega)]; exact a1, by rw [f1 73 83 (by omega) (by omega) (by omega) (by omega)]; exact a2, ck a3⟩
  · rcases h5 with ⟨a1, -⟩ | ⟨a1, a2, a3, a4, a5, a6, a7⟩
    · rw [h15] at a1
      exact absurd a1 (by decide)
    · exact Or.inr ⟨by rw [f1 0 15 (by omega) (by omega) (by omega) (by omega)]; exact a1, by rw [f1 73 124 (by omega) (by omega) (by omega) (by omega)]; exact a2, by rw [f1 0 14 (by omega) (by omega) (by omega) (by omega)]; exact a3, by rw [f1 73 83 (by omega) (by omega) (by omega) (by omega)]; exact a4, ck a5, hP, iSh_fr a7 (fun c k z => f1 c k (by omega) (by omega) (by omega) (by omega)) (fun a => f2 119 a)⟩
theorem al_cp (h : CPo n w S S') (hD : iDR S) : iAl n w S' := by
  obtain ⟨c1, c2, c3, c4, c5, c6, c7, c8⟩ := h
  exact ⟨c1, iDR_fr hD (fun c k q => c2 c k (by omega) (by omega) (by omega) (by omega) (by omega)), c3, Or.inl ⟨c4, c6 124 (by omega), c6 139 (by omega), c6 140 (by omega)⟩, c7, c8⟩
end IAL
