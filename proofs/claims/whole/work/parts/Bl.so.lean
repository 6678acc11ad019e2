/-! SORTS on both sides: beginning and end -/
/-- what the class's SORTS never touches -/
def KGc (S S' : zS) : Prop := (∀ c k, ¬ ((c = 3 ∧ (k = 5 ∨ k = 6)) ∨ c = 5 ∨ c = 7 ∨ (c = 8 ∧ (k = 11 ∨ k = 12)) ∨ c = 16 ∨ (c = 39 ∧ (k = 3 ∨ k = 5 ∨ k = 9 ∨ k = 10)) ∨ (40 ≤ c ∧ c ≤ 44)) → S'.1 c k = S.1 c k) ∧ ∀ c k, S'.2 c k = S.2 c k
theorem KGc_rfl {S : zS} : KGc S S := ⟨fun _ _ _ => rfl, fun _ _ => rfl⟩
theorem KGc_tr {S S' S'' : zS} (h1 : KGc S S') (h2 : KGc S' S'') : KGc S S'' := ⟨fun c k q => (h2.1 c k q).trans (h1.1 c k q), fun c k => (h2.2 c k).trans (h1.2 c k)⟩
theorem KGc_zi {S X : zS} {c k : Nat} {v : Int32} (hc : (c = 3 ∧ (k = 5 ∨ k = 6)) ∨ c = 5 ∨ c = 7 ∨ (c = 8 ∧ (k = 11 ∨ k = 12)) ∨ c = 16 ∨ (c = 39 ∧ (k = 3 ∨ k = 5 ∨ k = 9 ∨ k = 10)) ∨ (40 ≤ c ∧ c ≤ 44)) (h : KGc S X) : KGc S (zi X c k v) := ⟨fun c' k' q => by
  rw [zi_get, if_neg (fun e => q (by obtain ⟨rfl, rfl⟩ := e; exact hc))]
  exact h.1 c' k' q, h.2⟩
theorem KGc_ite {S X Y : zS} {Pp : Prop} [Decidable Pp] (h1 : KGc S X) (h2 : KGc S Y) : KGc S (if Pp then X else Y) := by
  split
  · exact h1
  · exact h2
section KGs
variable {S X : zS} {b : Nat → Int32} {t i k : Nat} {x y op : Int32}
theorem KGc_kT (h : KGc S X) : KGc S (kT X x y) := KGc_ite (KGc_zi (by omega) (KGc_zi (by omega) h)) h
theorem KGc_kPop (h : KGc S X) : KGc S (kPop X) := KGc_zi (by omega) h
theorem KGc_kPush (h : KGc S X) : KGc S (kPush X x) := KGc_zi (by omega) (KGc_zi (by omega) h)
theorem KGc_kMust (h : KGc S X) : KGc S (kMust X x i) := KGc_ite (KGc_kPop h) (KGc_kT (KGc_kPop h))
theorem KGc_kPub (h : KGc S X) : KGc S (kPub X x y) := KGc_ite (KGc_kT h) h
theorem KGc_kShow (h : KGc S X) : KGc S (kShow X x) := KGc_zi (by omega) (KGc_zi (by omega) h)
theorem KGc_kOpen (h : KGc S X) : KGc S (kOpen X) := KGc_zi (by omega) (KGc_zi (by omega) h)
theorem KGc_kClose (h : KGc S X) : KGc S (kClose X) := KGc_zi (by omega) (KGc_zi (by omega) h)
theorem KGc_kOpenIf (h : KGc S X) : KGc S (kOpenIf X) := KGc_zi (by omega) (KGc_zi (by omega) (KGc_zi (by omega) (KGc_zi (by omega) h)))
theorem KGc_kWiden (h : KGc S X) : KGc S (kWiden X k x y) := KGc_zi (by omega) (KGc_zi (by omega) h)
theorem KGc_kNote (h : KGc S X) : KGc S (kNote X k) := KGc_ite h (KGc_kWiden h)
theorem KGc_kIn (h : KGc S X) : KGc S (kIn b t X i) := KGc_ite h (KGc_kT h)
theorem KGc_kRes (h : KGc S X) : KGc S (kRes b t X i) := KGc_zi (by omega) (KGc_ite (KGc_kT h) h)
theorem KGc_kName (h : KGc S X) : KGc S (kName b t X i) := KGc_ite (KGc_kRes h) (KGc_kPush (KGc_ite (KGc_kT (KGc_kRes h)) (KGc_kRes h)))
theorem KGc_kHead {call : Bool} (h : KGc S X) : KGc S (kHead b t X i call) := KGc_ite (KGc_kRes h) (KGc_ite (KGc_kRes h) (KGc_kT (KGc_kRes h)))
theorem KGc_kTarget {el : Bool} (h : KGc S X) : KGc S (kTarget b t X i el) := KGc_ite (KGc_kRes h) (KGc_ite (KGc_kRes h) (KGc_kT (KGc_kRes h)))
theorem KGc_kCloseIf (h : KGc S X) : KGc S (kCloseIf X k) := KGc_ite (KGc_zi (by omega) (KGc_zi (by omega) (KGc_zi (by omega) h))) (KGc_kWiden (KGc_zi (by omega) (KGc_zi (by omega) (KGc_zi (by omega) h))))
theorem KGc_kOp3 {x' : Int32} (h : KGc S X) : KGc S (kOp3 X i x x' op) := KGc_ite (KGc_ite (KGc_kPub h) h) (KGc_kT h)
theorem KGc_kOpr (h : KGc S X) : KGc S (kOpr X i op) := KGc_kPush (KGc_zi (by omega) (KGc_kOp3 (KGc_kPop (KGc_kPop h))))
theorem KGc_kSel (h : KGc S X) : KGc S (kSel X i) := KGc_kPush (KGc_zi (by omega) (KGc_ite (KGc_kPop (KGc_kPop (KGc_kPop h))) (KGc_kT (KGc_kPop (KGc_kPop (KGc_kPop h))))))
theorem KGc_kUna (h : KGc S X) : KGc S (kUna X i op) := KGc_kPush (KGc_ite (KGc_kPop h) (KGc_kT (KGc_kPop h)))
theorem KGc_kS : KGc S (kS b t S i) := by
  have r : KGc S S := KGc_rfl
  unfold kS
  refine KGc_ite (KGc_kShow (KGc_kIn r)) (KGc_ite (KGc_zi (by omega) (KGc_kIn r)) (KGc_ite (KGc_kShow (KGc_zi (by omega) (KGc_zi (by omega) (KGc_kMust r)))) (KGc_ite (KGc_zi (by omega) (KGc_kIn r)) (KGc_ite (KGc_kShow (KGc_kMust r)) (KGc_ite (KGc_kShow r) (KGc_ite (KGc_kTarget r) (KGc_ite (KGc_kTarget r) (KGc_ite (KGc_kNote (KGc_kMust r)) (KGc_ite (KGc_zi (by omega) (KGc_kPop r)) (KGc_ite (KGc_kIn r) (KGc_ite (KGc_kOpenIf (KGc_kOpen (KGc_kMust r))) (KGc_ite (KGc_kOpen (KGc_kClose r)) (KGc_ite (KGc_kCloseIf (KGc_kClose r)) (KGc_ite (KGc_kPub (KGc_kMust r)) (KGc_ite (KGc_kShow (KGc_kOpen r)) (KGc_ite (KGc_kClose r) ?_))))))))))))))))
  exact KGc_ite (KGc_kPush r) (KGc_ite (KGc_kPush r) (KGc_ite (KGc_kName r) (KGc_ite (KGc_kHead r) (KGc_ite (KGc_kHead r) (KGc_ite (KGc_zi (by omega) (KGc_kMust r)) (KGc_ite (KGc_kPush r) (KGc_ite (KGc_kMust r) (KGc_ite (KGc_kPush (KGc_kMust r)) (KGc_ite (KGc_kPush (KGc_kMust r)) (KGc_ite (KGc_kSel r) (KGc_ite (KGc_kUna r) (KGc_ite (KGc_kOpr r) r))))))))))))
theorem KGc_kR : ∀ (u i : Nat) (S : zS), KGc S (kR b t u i S)
  | 0, i, S => KGc_rfl
  | u + 1, i, S => by
    show KGc S (if S.1 3 5 = 0 then kR b t u (i + 1) (kS b t S i) else S)
    exact KGc_ite (KGc_tr KGc_kS (KGc_kR u (i + 1) (kS b t S i))) KGc_rfl
end KGs
/-- both at their beginning -/
def kIni (S : zS) : zS := zi (zi (zi (zi S 39 3 0) 39 5 0) 39 9 0) 39 10 0
def mIni (T : zS) : zS := zi (zi (zi (zi (zi (zi (zi T 73 34 0) 73 43 0) 73 49 0) 73 56 0) 73 60 0) 73 47 0) 73 59 0
/-- what both make of what was read -/
def SOK' (l : Launch) (Gr : zG) (n w d : Nat) (b : Nat → Int32) (t D vw iw i : Nat) (S0 S6 T : zS) (j N k : Nat) : Prop :=
  (S6.1 3 5 = 0 ∧ ∃ m A P T', (∀ Q : Option Value → zS → Prop, Q none T' → zW l Gr (zc n w) 168 M_Mo_sorts (d + 4) 0 [some (.ref 105), none] [] T Q) ∧ T'.1 73 7 = 0 ∧ LIt b t N D m A i j vw iw P S6 T' ∧ KMf T T' ∧ KIm (mIni T) T' 0 j ∧ aP n w D S6 T' (hxL S0) k A vw iw i j t) ∨
  (fz (S6.1 3 5) ∧ ∃ T', (∀ Q : Option Value → zS → Prop, Q none T' → zW l Gr (zc n w) 168 M_Mo_sorts (d + 4) 0 [some (.ref 105), none] [] T Q) ∧ T'.1 73 7 = S6.1 3 5 ∧ T'.1 73 8 = S6.1 3 6 ∧ KMf T T')
section SOE
variable {l : Launch} {Gr : zG} {n w : Nat} {d : Nat} {b : Nat → Int32} {t N D vw iw i j k : Nat} {S T : zS}
theorem kIni_c {c k : Nat} (h : ¬ (c = 39 ∧ (k = 3 ∨ k = 5 ∨ k = 9 ∨ k = 10))) : (kIni S).1 c k = S.1 c k := by
  unfold kIni
  rw [zi_get, if_neg (by omega), zi_get, if_neg (by omega), zi_get, if_neg (by omega), zi_get, if_neg (by omega)]
theorem mIni_c {c k : Nat} (h : ¬ (c = 73 ∧ (k = 34 ∨ k = 43 ∨ k = 47 ∨ k = 49 ∨ k = 56 ∨ k = 59 ∨ k = 60))) : (mIni T).1 c k = T.1 c k := by
  unfold mIni
  rw [zi_get, if_neg (by omega), zi_get, if_neg (by omega), zi_get, if_neg (by omega), zi_get, if_neg (by omega), zi_get, if_neg (by omega), zi_get, if_neg (by omega), zi_get, if_neg (by omega)]
theorem mIni_v : (mIni T).1 73 34 = 0 ∧ (mIni T).1 73 43 = 0 ∧ (mIni T).1 73 49 = 0 ∧ (mIni T).1 73 56 = 0 ∧ (mIni T).1 73 60 = 0 ∧ (mIni T).1 73 47 = 0 ∧ (mIni T).1 73 59 = 0 := by
  unfold mIni
  refine ⟨?_, ?_, ?_, ?_, ?_, ?_, zi_v⟩
  · rw [zi_k (by decide), zi_k (by decide), zi_k (by decide), zi_k (by decide), zi_k (by decide), zi_k (by decide)]; exact zi_v
  · rw [zi_k (by decide), zi_k (by decide), zi_k (by decide), zi_k (by decide), zi_k (by decide)]; exact zi_v
  · rw [zi_k (by decide), zi_k (by decide), zi_k (by decide), zi_k (by decide)]; exact zi_v
  · rw [zi_k (by decide), zi_k (by decide), zi_k (by decide)]; exact zi_v
  · rw [zi_k (by decide), zi_k (by decide)]; exact zi_v
  · rw [zi_k (by decide)]; exact zi_v
theorem KMf_mIni : KMf T (mIni T) := by
  unfold mIni
  repeat first | exact KMf_rfl | refine KMf_zi (by omega) ?_
theorem so_i (hc : CN b t t i D vw S) (h11 : S.1 8 11 = 0) (h12 : S.1 8 12 = 0) (hH : HS b t t j 0 N vw iw t T) : LIt b t N 0 0 (fun _ _ => False) i j 0 0 0 (kIni S) (mIni T) ∧ t ≤ 4000 ∧ D ≤ 800 := by
  obtain ⟨hcs, h81, h89, h34, hip, h5D, hvw, hNS⟩ := hc
  have ht := CS_t hcs
  obtain ⟨⟨hmc, h26, h30, h29⟩, hgp, hbud⟩ := hH
  have hO := hmc.2.2.2.2.2
  obtain ⟨q1, q2, q3⟩ := hbud
  have hN : N ≤ 2000 := by
    rcases q3 with q | q <;> omega
  have v := mIni_v (T := T)
  have v39 : (kIni S).1 39 3 = 0 ∧ (kIni S).1 39 5 = 0 ∧ (kIni S).1 39 9 = 0 ∧ (kIni S).1 39 10 = 0 := by
    unfold kIni
    exact ⟨by rw [zi_k (by decide), zi_k (by decide), zi_k (by decide)]; exact zi_v, by rw [zi_k (by decide), zi_k (by decide)]; exact zi_v, by rw [zi_k (by decide)]; exact zi_v, zi_v⟩
  refine ⟨⟨⟨⟨⟨⟨?_, ht, (kIni_c (by omega)).trans h81, fun d hd => absurd hd (Nat.not_lt_zero _), by omega⟩, ⟨(kIni_c (by omega)).trans h11, by omega, (kIni_c (by omega)).trans h12, by omega, fun v hv => absurd hv (Nat.not_lt_zero _)⟩, v.1, ⟨(mIni_c (by omega)).trans hO.1, fun v hv => ?_, fun v v' a a' y1 y2 y3 y4 y5 y6 y7 => ?_⟩, hN, Or.inl ⟨rfl, v.2.2.2.2.2.1⟩, fun v hv => absurd hv (Nat.not_lt_zero _)⟩, ⟨(kIni_c (by omega)).trans hcs.2.2.2.2.2.1, by omega, (kIni_c (by omega)).trans (CS_f hcs)⟩, v39.1, ⟨(mIni_c (by omega)).trans (MC_13 hmc), by omega, (mIni_c (by omega)).trans (MC_f hmc)⟩, v.2.1, v.2.2.2.1⟩, v.2.2.2.2.2.1, ⟨v39.2.1, v.2.2.1⟩, ⟨v39.2.2.1, by omega⟩, ⟨v39.2.2.2, by omega⟩, Or.inl ⟨rfl, rfl, rfl⟩, ⟨fun v v' hv => absurd hv (Nat.not_lt_zero _), fun v hv => absurd hv (Nat.not_lt_zero _)⟩, fun d a y => y.elim⟩, v.2.2.2.2.2.2, v.2.2.2.2.1, by omega⟩, ht, by omega⟩
  · rw [← hcs.1]
    funext k
    exact kIni_c (by omega)
  · rw [mIni_c (by omega), mIni_c (by omega)]
    exact hO.2.1 v hv
  · rw [mIni_c (by omega)] at y5 y6
    exact hO.2.2 v v' a a' y1 y2 y3 y4 y5 y6 y7
theorem so_core (hg : ip_gk (lg_tbl, vwCl, Gr)) (hn16 : n ≤ 16) (hc : CN b t t i D vw S) (h11 : S.1 8 11 = 0) (h12 : S.1 8 12 = 0) (hH : HS b t t j 0 N vw iw t T) (g : gP n w S T (nid b t T) k i j iw vw D t) : (∀ Q : Option Value → zS → Prop, Q none (kR b t i 0 (kIni S)) → zW l Gr (zc n w) 168 M_Sorts_check (d + 6) 0 [some (.ref 71), none, none] [] S Q) ∧ SOK' l Gr n w d b t D vw iw i S (kR b t i 0 (kIni S)) T j N k := by
  obtain ⟨hI, ht, h8⟩ := so_i hc h11 h12 hH
  have hNS := hc.2.2.2.2.2.2.2
  have ent : ∀ Q : Option Value → zS → Prop, zW l Gr (zc n w) 168 M_Sorts_check (d + 6) 22 [some (.ref 71), some (.int (nI 0)), none] [] (kIni S) Q → zW l Gr (zc n w) 168 M_Sorts_check (d + 6) 0 [some (.ref 71), none, none] [] S Q := fun Q q => b_Sorts_check_0 q
  have enm : ∀ Q : Option Value → zS → Prop, zW l Gr (zc n w) 168 M_Mo_sorts (d + 4) 37 [some (.ref 105), some (.int (nI 0))] [] (mIni T) Q → zW l Gr (zc n w) 168 M_Mo_sorts (d + 4) 0 [some (.ref 105), none] [] T Q := fun Q q => b_Mo_sorts_0 q
  rcases pr_all (l := l) (Gr := Gr) (n := n) (w := w) (d := d) (S0 := S) (T0 := T) (S := kIni S) (T := mIni T) (sz := i) (mz := j) (N := N) (Df := D) hg hn16 hNS h8 ht (fun y _ _ => ⟨kIni_c (by omega), kIni_c (by omega), kIni_c (by omega), kIni_c (by omega)⟩) ⟨fun y _ _ => ⟨mIni_c (by omega), mIni_c (by omega), mIni_c (by omega), mIni_c (by omega), rfl⟩, fun y _ _ => mIni_c (by omega)⟩ (fun e _ => ⟨kIni_c (by omega), kIni_c (by omega), kIni_c (by omega), kIni_c (by omega), kIni_c (by omega), kIni_c (by omega), kIni_c (by omega)⟩) (fun c k hc => kIni_c (by omega)) (fun v p y => nid_k y (mIni_c (by omega)) (fun k => mIni_c (by omega))) hI k i j iw vw D t g (Nat.le_refl _) (Nat.le_refl _) (Nat.le_refl _) (Nat.le_refl _) with ⟨m, A, P, S', T', a1, a2, a3, a4, a5, a6, a7⟩ | ⟨fl, pl, S', T', u, j1, q1, q2, q3, q4, q5, q6, q7, q8, q9, q10⟩
  · rw [Nat.sub_zero] at a2
    rw [← a2]
    have hL := a4.1.1
    refine ⟨fun Q q => ent Q (a1 Q (b_Sorts_check_22 (fun _ => b_Sorts_check_110 q) (fun z => absurd (by rw [hL.2.1.1]; exact nI_le (Nat.le_refl _) (by have := hL.2.1.2.1; omega)) z))), Or.inl ⟨hL.2.1.2.2, m, A, P, T', fun Q q => enm Q (a3.2 Q (b_Mo_sorts_37 (fun _ => b_Mo_sorts_82 q) (fun z => absurd (by rw [hL.2.2.2.1.1]; exact nI_le (Nat.le_refl _) (by have := hL.2.2.2.1.2.1; omega)) z))), hL.2.2.2.1.2.2, a4, KMf_tr KMf_mIni a3.1, a6, a7⟩⟩
  · rw [Nat.sub_zero] at q5
    have nf : ¬ S'.1 3 5 = 0 := by rw [q6]; exact nz q3
    have nm : ¬ T'.1 73 7 = 0 := by rw [q9]; exact nz q3
    have e6 : kR b t i 0 (kIni S) = S' := by
      have := kR_add (b := b) (t := t) u (i - u) 0 (kIni S)
      rw [show u + (i - u) = i by omega, ← q5, kR_F nf] at this
      exact this
    rw [e6]
    exact ⟨fun Q q => ent Q (q4 Q (b_Sorts_check_22 (fun _ => b_Sorts_check_110 q) (fun _ => b_Sorts_check_33 (fun _ => b_Sorts_check_110 q) (fun y => absurd y nf)))), Or.inr ⟨by rw [q6]; exact q3, T', fun Q q => enm Q (q8.2 Q (b_Mo_sorts_37 (fun _ => b_Mo_sorts_82 q) (fun _ => b_Mo_sorts_45 (fun _ => b_Mo_sorts_82 q) (fun y => absurd y nm)))), q9.trans q6.symm, q10.trans q7.symm, KMf_tr KMf_mIni q8.1⟩⟩
/-- a store of which reading may begin -/
def fkT (b : Nat → Int32) (t : Nat) : zS := (fun c k => if c = 75 then b k else if c = 73 ∧ k = 5 then nI t else 0, fun _ _ => 0)
theorem fk_HS (ht : t ≤ 4000) : HS b t 0 0 0 0 0 0 (gp b t 0) (fkT b t) := by
  refine ⟨⟨⟨⟨rfl, fun k _ => rfl, rfl, Nat.zero_le _, ht⟩, rfl, rfl, rfl, rfl, rfl, fun v hv => absurd hv (Nat.not_lt_zero _), fun v v' a a' hv => absurd hv (Nat.not_lt_zero _)⟩, rfl, rfl, rfl⟩, rfl, ⟨by omega, by omega, Or.inl (by omega)⟩⟩
/-- SORTS: the class's, and for every store of the reference in step the reference's -/
theorem w_sorts (hg : ip_gk (lg_tbl, vwCl, Gr)) (hn16 : n ≤ 16) {S0 : zS} {d0 : Nat} (hc : CN b t t i D vw S) (h11 : S.1 8 11 = 0) (h12 : S.1 8 12 = 0) (hT : ∀ T0, HS b t 0 0 0 0 0 0 (gp b t 0) T0 → ∃ T j N k, (∀ Q : Option Value → zS → Prop, Q none T → zW l Gr (zc n w) 168 M_Mo_program (d0 + 14) 42 pL [] T0 Q) ∧ HS b t t j 0 N vw iw t T ∧ PK b t T0 T 0 0 ∧ gP n w S T (nid b t T) k i j iw vw D t) : zMv l Gr (zc n w) 168 M_Sorts_check (d + 6) [.ref 71] S (fun S6 => S6 = kR b t i 0 (kIni S) ∧ KGc S S6 ∧ ∀ T j N k, HS b t t j 0 N vw iw t T → gP n w S T (nid b t T) k i j iw vw D t → SOK' l Gr n w d b t D vw iw i S S6 T j N k) := by
  obtain ⟨T, j, N, k, -, hH, -, g⟩ := hT (fkT b t) (fk_HS (CS_t hc.1))
  have a := so_core (l := l) (Gr := Gr) (n := n) (w := w) (d := d) hg hn16 hc h11 h12 hH g
  refine e_Sorts_check (a.1 _ ⟨rfl, rfl, KGc_tr ?_ (KGc_kR i 0 (kIni S)), fun T j N k hH g => (so_core (l := l) (Gr := Gr) (n := n) (w := w) (d := d) hg hn16 hc h11 h12 hH g).2⟩)
  unfold kIni
  repeat first | exact KGc_rfl | refine KGc_zi (by omega) ?_
end SOE
