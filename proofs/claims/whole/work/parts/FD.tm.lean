/-! triples: the reference cuts them -/
/-- ANDs below gate g -/
def aNb (S : zS) : Nat → Nat
  | 0 => 0
  | g + 1 => aNb S g + (if S.1 111 g = 1 then 1 else 0)
def TRm (q : Nat) (Qs : Nat → Int32) (s : Int32) (n i0 : Nat) (S0 S : zS) (g : Nat) : Prop := S.1 152 g = (tpA q Qs s n (tNk q Qs s n i0 (aNb S0 g))).1 ∧ S.1 153 g = (tpB q Qs s n (tNk q Qs s n i0 (aNb S0 g))).1 ∧ S.1 154 g = tpC q Qs s n (tNk q Qs s n i0 (aNb S0 g))
def FTm (S S' : zS) : Prop := (∀ c k, ¬ (c = 73 ∧ (120 ≤ k ∧ k ≤ 122)) → ¬ (152 ≤ c ∧ c ≤ 154) → S'.1 c k = S.1 c k) ∧ ∀ c k, S'.2 c k = S.2 c k
section TRR
variable {l : Launch} {Gr : zG} {n w d q fi i i0 G : Nat} {S S0 S' S'' : zS} {s x : Int32} {Qs : Nat → Int32} {Q : Option Value → zS → Prop}
theorem DMq_zi {c k : Nat} {v : Int32} (h : DMq q fi Qs s i S) (hc : ¬ c = 73) (hc2 : ¬ c = 150) : DMq q fi Qs s i (zi S c k v) :=
  ⟨h.1, h.2.1, by rw [zi_c (Ne.symm hc)]; exact h.2.2.1, by rw [zi_c (Ne.symm hc)]; exact h.2.2.2.1, by rw [zi_c (Ne.symm hc)]; exact h.2.2.2.2.1, fun j hj => by rw [zi_c (Ne.symm hc2)]; exact h.2.2.2.2.2 j hj⟩
theorem tpO_1 (hn : 1 ≤ n) : tpO q Qs s n i = dBut q Qs s (fun p => decide (p = 0)) (n - 1) 1 (tpB q Qs s n i).2 0 := by
  obtain ⟨n', rfl⟩ : ∃ n', n = n' + 1 := ⟨n - 1, by omega⟩
  rfl
theorem m_tr (hg : ip_gk (lg_tbl, vwCl, Gr)) (hn : 1 ≤ n ∧ n ≤ 16) (hG : G ≤ 40000) (h66 : S0.1 73 66 = nI G) (kk : ∀ S', DMq q fi Qs s (tNk q Qs s n i0 (aNb S0 G)) S' → (∀ g, g < G → S0.1 111 g = 1 → TRm q Qs s n i0 S0 S' g) → FTm S0 S' → zW l Gr (zc n w) 168 M_Mo_shareAll (d + 2) 280 [some (.ref 105), none, none, none, none, none] [] S' Q) : ∀ c g S, g + c = G → DMq q fi Qs s (tNk q Qs s n i0 (aNb S0 g)) S → (∀ j, j < g → S0.1 111 j = 1 → TRm q Qs s n i0 S0 S j) → FTm S0 S → zW l Gr (zc n w) 168 M_Mo_shareAll (d + 2) 125 [some (.ref 105), some (.int (nI g)), none, none, none, none] [] S Q
  | 0, g, S, h, hD, hT, hF => by
    have eg : g = G := by omega
    subst eg
    exact b_Mo_shareAll_125 (fun _ => kk S hD hT hF) (fun y => absurd (by rw [hF.1 73 66 (by omega) (by omega), h66]; exact nI_le (Nat.le_refl _) (by omega)) y)
  | c + 1, g, S, h, hD, hT, hF => by
    have ck : (nI g).toNatClampNeg = g := nI_clamp (by omega)
    have vk : vp_in (nI g) 40000 := vp_in_nI (by omega) (by omega)
    have e111 : S.1 111 g = S0.1 111 g := hF.1 111 g (by omega) (by omega)
    refine b_Mo_shareAll_125 (fun y => absurd y (by rw [hF.1 73 66 (by omega) (by omega), h66]; exact nI_ge (by omega) (by omega))) (fun _ => b_Mo_shareAll_133 vk (fun y => b_Mo_shareAll_274 ?_) (fun y => b_Mo_shareAll_143 ?_))
    · rw [ck, e111] at y
      have ea : aNb S0 (g + 1) = aNb S0 g := by
        show aNb S0 g + (if S0.1 111 g = 1 then 1 else 0) = _
        rw [if_neg y]
        rfl
      rw [show nI g + Int32.ofInt 1 = nI (g + 1) from nI_add g 1]
      refine m_tr hg hn hG h66 kk c (g + 1) S (by omega) (by rw [ea]; exact hD) (fun j hj h1 => ?_) hF
      by_cases z : j = g
      · rw [z] at h1
        exact absurd h1 y
      · exact hT j (by omega) h1
    · rw [ck, e111] at y
      have ea : aNb S0 (g + 1) = aNb S0 g + 1 := by
        show aNb S0 g + (if S0.1 111 g = 1 then 1 else 0) = _
        rw [if_pos y]
      refine md_153 hg hn.2 n 0 _ 0 S (by omega) hD (fun S1 d1 f1 => b_Mo_shareAll_178 (md_181 hg hn.2 n 0 _ 0 S1 (by omega) d1 (fun S2 d2 f2 => b_Mo_shareAll_206 (md_209 (le := fun p => decide (p = 0)) hg hn.2 (fun p hp => decide_eq_false (by omega)) (n - 1) 1 _ 0 S2 (Nat.le_refl _) (by omega) d2 (fun S3 d3 f3 => ?_)))))
      refine b_Mo_shareAll_236 hg vk (wm_pary hg) (fun v S' e => ?_)
      obtain ⟨rfl, rfl⟩ := e
      refine b_Mo_shareAll_262 hg (wm_pary hg) (fun v S' e => ?_)
      obtain ⟨rfl, rfl⟩ := e
      refine b_Mo_shareAll_266 hg (wm_pary hg) (fun v S' e => ?_)
      obtain ⟨rfl, rfl⟩ := e
      refine b_Mo_shareAll_270 vk (b_Mo_shareAll_274 ?_)
      rw [ck, show nI g + Int32.ofInt 1 = nI (g + 1) from nI_add g 1]
      have f := FDm_tr (FDm_tr f1 f2) f3
      have eO := tpO_1 (q := q) (Qs := Qs) (s := s) (i := tNk q Qs s n i0 (aNb S0 g)) hn.1
      refine m_tr hg hn hG h66 kk c (g + 1) _ (by omega) ?_ (fun j hj h1 => ?_) ⟨fun c i q1 q2 => ?_, fun c i => ?_⟩
      · rw [ea]
        show DMq q fi Qs s (tpO q Qs s n (tNk q Qs s n i0 (aNb S0 g))).2 _
        rw [eO]
        exact DMq_zi (DMq_zi (DMq_zi d3 (by decide) (by decide)) (by decide) (by decide)) (by decide) (by decide)
      · by_cases z : j = g
        · subst z
          refine ⟨by rw [zi_c (by decide), zi_c (by decide)]; exact zi_v, by rw [zi_c (by decide)]; exact zi_v, ?_⟩
          rw [zi_v]
          unfold tpC
          rw [eO]
          rfl
        · obtain ⟨t1, t2, t3⟩ := hT j (by omega) h1
          exact ⟨by rw [zi_c (by decide), zi_c (by decide), zi_k z, f.1 152 j (by omega)]; exact t1, by rw [zi_c (by decide), zi_k z, zi_c (by decide), f.1 153 j (by omega)]; exact t2, by rw [zi_k z, zi_c (by decide), zi_c (by decide), f.1 154 j (by omega)]; exact t3⟩
      · rw [zi_get, if_neg (by omega), zi_get, if_neg (by omega), zi_get, if_neg (by omega), f.1 c i (by omega)]
        exact hF.1 c i q1 q2
      · exact (f.2 c i).trans (hF.2 c i)
end TRR
