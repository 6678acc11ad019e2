/-! shares of the gates' wires, on both sides -/
/-- the shares of literal x, row c -/
def shK (c : Nat) (S : zS) (x : Int32) : Int32 := if x < 0 then x &&& 1 else S.1 c ((x >>> (1 &&& 31)).toNatClampNeg) ^^^ (x &&& 1)
def aKv (A B C x y : Int32) : Int32 := ((C ^^^ ((-(par (x ^^^ A))) &&& B)) ^^^ ((-(par (y ^^^ B))) &&& A)) ^^^ (par (x ^^^ A) &&& par (y ^^^ B))
/-- gate g's shares, by those of its two literals -/
def gFx (c : Nat) (S : zS) (X Y TA TB TC : Nat → Int32) (an : Nat → Bool) (wb g : Nat) : Prop := S.1 c (wb + g) = if an g = true then aKv (TA g) (TB g) (TC g) (shK c S (X g)) (shK c S (Y g)) else shK c S (X g) ^^^ shK c S (Y g)
/-- literals of gates are there before them -/
def LGt (X Y : Nat → Int32) (wb G : Nat) : Prop := ∀ g, g < G → (∃ a, a < 2 * (wb + g) ∧ X g = nI a) ∧ ∃ b, b < 2 * (wb + g) ∧ Y g = nI b
section WSH
variable {l : Launch} {Gr : zG} {n w d wb G c k a : Nat} {S S0 S' T : zS} {x y v A B C : Int32} {X Y TA TB TC : Nat → Int32} {an : Nat → Bool} {cn : Nat → Nat} {Q : Option Value → zS → Prop}
theorem and1_01 (x : Int32) : x &&& 1 = 0 ∨ x &&& 1 = 1 := by
  have e : x &&& nI (2 ^ 1 - 1) = nI (x.toBitVec.toNat % 2 ^ 1) := and_i x (by omega)
  have e2 : x &&& 1 = nI (x.toBitVec.toNat % 2) := e
  rw [e2]
  have h : x.toBitVec.toNat % 2 = 0 ∨ x.toBitVec.toNat % 2 = 1 := by omega
  rcases h with h | h <;> rw [h]
  · exact Or.inl rfl
  · exact Or.inr rfl
theorem par_01 : par x = 0 ∨ par x = 1 := and1_01 _
theorem shK_n (h : a < 2 ^ 31) : shK c S (nI a) = S.1 c (a / 2) ^^^ (nI a &&& 1) := by
  unfold shK
  rw [if_neg (nI_pos h), shr_n h, nI_clamp (by omega)]
theorem shK_zi (h : a < 2 * k) (h2 : k < 2 ^ 29) : shK c (zi S c k v) (nI a) = shK c S (nI a) := by
  rw [shK_n (by omega), shK_n (by omega), zi_k (by omega)]
theorem shK_eq {c' : Nat} (h : a < 2 ^ 31) (e : S.1 c (a / 2) = T.1 c' (a / 2)) : shK c S (nI a) = shK c' T (nI a) := by
  rw [shK_n h, shK_n h, e]
theorem w_sho (hw : w ≤ 32) (h : x < 0 ∨ ∃ a, a < 2 * (256 * w + 40000) ∧ x = nI a) : zMi l Gr (zc n w) 168 M_Dealer_sharesOf d [.ref 91, .int x] S (fun v S' => v = shK 64 S x ∧ S' = S) := by
  by_cases z : x < 0
  · refine e_Dealer_sharesOf (b_Dealer_sharesOf_0 (fun _ => b_Dealer_sharesOf_15 (b_Dealer_sharesOf_33 ⟨_, rfl, ?_, rfl⟩)) (fun y => absurd z y))
    unfold shK
    rw [if_pos z]
  · rcases h with h | ⟨a, ha, rfl⟩
    · exact absurd h z
    · have e := shr_n (k := a) (Nat.lt_of_lt_of_le ha (Nat.le_trans (show 2 * (256 * w + 40000) ≤ 96384 by omega) (by decide)))
      refine e_Dealer_sharesOf (b_Dealer_sharesOf_0 (fun y => absurd y z) (fun _ => b_Dealer_sharesOf_4 (fun _ => b_Dealer_sharesOf_21 (by rw [e]; exact vp_in_nI (by omega) (by omega)) (b_Dealer_sharesOf_33 ⟨_, rfl, ?_, rfl⟩)) (fun y => absurd (by rw [e]; exact (nI_ltI (by omega) (by omega)).mpr (by omega)) y)))
      unfold shK
      rw [if_neg z]
theorem wm_sho (h : x < 0 ∨ ∃ a, a < 96384 ∧ x = nI a) : zMi l Gr (zc n w) 168 M_Mo_shareOf d [.ref 105, .int x] S (fun v S' => v = shK 151 S x ∧ S' = S) := by
  by_cases z : x < 0
  · refine e_Mo_shareOf (b_Mo_shareOf_0 (fun y => absurd z (Int32.not_lt.mpr y)) (fun _ => b_Mo_shareOf_4 (b_Mo_shareOf_22 ⟨_, rfl, ?_, rfl⟩)))
    unfold shK
    rw [if_pos z]
  · rcases h with h | ⟨a, ha, rfl⟩
    · exact absurd h z
    · have e := shr_n (k := a) (by omega)
      refine e_Mo_shareOf (b_Mo_shareOf_0 (fun _ => b_Mo_shareOf_10 (by rw [e]; exact vp_in_nI (by omega) (by omega)) (b_Mo_shareOf_22 ⟨_, rfl, ?_, rfl⟩)) (fun y => absurd (Int32.not_lt.mp z) y))
      unfold shK
      rw [if_neg z]
theorem w_soa (hg : ip_gk (lg_tbl, vwCl, Gr)) (hc : c < 40000) : zMi l Gr (zc n w) 168 M_Dealer_sharesOfAnd (d + 2) [.ref 91, .int (nI c), .int x, .int y] S (fun v S' => v = aKv (S.1 61 c) (S.1 62 c) (S.1 63 c) x y ∧ S' = S) := by
  have ck : (nI c).toNatClampNeg = c := nI_clamp (by omega)
  have vc : vp_in (nI c) 40000 := vp_in_nI hc (by omega)
  refine e_Dealer_sharesOfAnd (b_Dealer_sharesOfAnd_0 hg vc (w_par hg) (fun v S1 e => ?_))
  obtain ⟨rfl, rfl⟩ := e
  refine b_Dealer_sharesOfAnd_11 hg vc (w_par hg) (fun v S1 e => ?_)
  obtain ⟨rfl, rfl⟩ := e
  refine b_Dealer_sharesOfAnd_24 vc ⟨_, rfl, ?_, rfl⟩
  rw [ck]
  rfl
/-- what the class's shares of gates leave -/
def FWk (wb : Nat) (S S' : zS) : Prop := (∀ c k, ¬ (c = 64 ∧ wb ≤ k) → S'.1 c k = S.1 c k) ∧ ∀ c k, S'.2 c k = S.2 c k
def FWm (wb : Nat) (S S' : zS) : Prop := (∀ c k, ¬ (c = 151 ∧ wb ≤ k) → S'.1 c k = S.1 c k) ∧ ∀ c k, S'.2 c k = S.2 c k
theorem gFx_zi {g g' : Nat} (hL : LGt X Y wb G) (hG : G ≤ 40000) (hwb : wb ≤ 8192) (hg : g < G) (h' : g' < g) (h : gFx c S X Y TA TB TC an wb g') : gFx c (zi S c (wb + g) v) X Y TA TB TC an wb g' := by
  obtain ⟨⟨a, ha, ea⟩, b, hb, eb⟩ := hL g' (by omega)
  unfold gFx at h ⊢
  rw [zi_k (by omega), ea, eb, shK_zi (by omega) (by omega), shK_zi (by omega) (by omega), h, ea, eb]
theorem gFx_new {g : Nat} (hL : LGt X Y wb G) (hG : G ≤ 40000) (hwb : wb ≤ 8192) (hg : g < G) (hv : v = if an g = true then aKv (TA g) (TB g) (TC g) (shK c S (X g)) (shK c S (Y g)) else shK c S (X g) ^^^ shK c S (Y g)) : gFx c (zi S c (wb + g) v) X Y TA TB TC an wb g := by
  obtain ⟨⟨a, ha, ea⟩, b, hb, eb⟩ := hL g hg
  unfold gFx
  rw [zi_v, hv, ea, eb, shK_zi (by omega) (by omega), shK_zi (by omega) (by omega)]
theorem ws_12 (hg : ip_gk (lg_tbl, vwCl, Gr)) (hw : w ≤ 32) (hL : LGt X Y wb G) (hG : G ≤ 40000) (hwb : wb ≤ 256 * w) (h4 : S0.1 24 4 = nI G) (hX : ∀ g, g < G → S0.1 25 g = X g ∧ S0.1 26 g = Y g ∧ S0.1 28 g = (if an g = true then nI (cn g) else -1) ∧ (an g = true → cn g < 40000 ∧ S0.1 61 (cn g) = TA g ∧ S0.1 62 (cn g) = TB g ∧ S0.1 63 (cn g) = TC g)) (kk : ∀ S', FWk wb S0 S' → (∀ g, g < G → gFx 64 S' X Y TA TB TC an wb g) → Q none S') : ∀ c g S, g + c = G → FWk wb S0 S → (∀ g', g' < g → gFx 64 S X Y TA TB TC an wb g') → zW l Gr (zc n w) 168 M_Dealer_workShares (d + 3) 12 [some (.ref 91), some (.ref 56), some (.int (nI wb)), some (.int (nI g)), none, none, none] [] S Q
  | 0, g, S, h, hF, h1 => by
    have e4 : S.1 24 4 = nI G := (hF.1 24 4 (by omega)).trans h4
    have eg : g = G := by omega
    subst eg
    exact b_Dealer_workShares_r56_12 (fun _ => b_Dealer_workShares_r56_107 (kk S hF h1)) (fun y => absurd (by rw [e4]; exact nI_le (Nat.le_refl _) (by omega)) y)
  | c + 1, g, S, h, hF, h1 => by
    have e4 : S.1 24 4 = nI G := (hF.1 24 4 (by omega)).trans h4
    have ck : (nI g).toNatClampNeg = g := nI_clamp (by omega)
    have vg : vp_in (nI g) 40000 := vp_in_nI (by omega) (by omega)
    obtain ⟨x1, x2, x3, x4⟩ := hX g (by omega)
    obtain ⟨⟨a, ha, ea⟩, b, hb, eb⟩ := hL g (by omega)
    have e25 : S.1 25 g = X g := (hF.1 25 g (by omega)).trans x1
    have e26 : S.1 26 g = Y g := (hF.1 26 g (by omega)).trans x2
    have e28 : S.1 28 g = (if an g = true then nI (cn g) else -1) := (hF.1 28 g (by omega)).trans x3
    have fin : ∀ v : Int32, (v = if an g = true then aKv (TA g) (TB g) (TC g) (shK 64 S (X g)) (shK 64 S (Y g)) else shK 64 S (X g) ^^^ shK 64 S (Y g)) → zW l Gr (zc n w) 168 M_Dealer_workShares (d + 3) 100 [some (.ref 91), some (.ref 56), some (.int (nI wb)), some (.int (nI g)), none, none, none] [.int v, .int (nI wb + nI g), .ref 96] S Q := fun v hv => by
      refine b_Dealer_workShares_r56_100 (by rw [nI_add]; exact vp_in_nI (by omega) (by omega)) ?_
      rw [nI_add, nI_clamp (by omega), show nI g + Int32.ofInt 1 = nI (g + 1) from nI_add g 1]
      refine ws_12 hg hw hL hG hwb h4 hX kk c (g + 1) _ (by omega) ⟨fun c' k' q1 => ?_, fun c' k' => hF.2 c' k'⟩ (fun g' hg' => ?_)
      · rw [zi_get, if_neg (by omega)]
        exact hF.1 c' k' q1
      · by_cases z : g' = g
        · rw [z]
          exact gFx_new hL hG (by omega) (by omega) hv
        · exact gFx_zi hL hG (by omega) (by omega) (by omega) (h1 g' (by omega))
    refine b_Dealer_workShares_r56_12 (fun y => absurd y (by rw [e4]; exact nI_ge (by omega) (by omega))) (fun _ => b_Dealer_workShares_r56_20 (fun y => absurd y (by rw [nI_add]; exact nI_ge (by omega) (by omega))) (fun _ => b_Dealer_workShares_r56_31 hg vg (w_sho hw (Or.inr ⟨a, by omega, by rw [ck, e25, ea]⟩)) (fun v S1 e => ?_)))
    obtain ⟨rfl, rfl⟩ := e
    refine b_Dealer_workShares_r56_41 hg vg (w_sho hw (Or.inr ⟨b, by omega, by rw [ck, e26, eb]⟩)) (fun v S1 e => ?_)
    obtain ⟨rfl, rfl⟩ := e
    rw [ck, e25, e26]
    cases ean : an g with
    | true =>
      rw [ean, if_pos rfl] at e28
      obtain ⟨y1, y2, y3, y4⟩ := x4 ean
      have hs : zW l Gr (zc n w) 168 M_Dealer_workShares (d + 3) 75 [some (.ref 91), some (.ref 56), some (.int (nI wb)), some (.int (nI g)), some (.int (shK 64 S1 (X g))), some (.int (shK 64 S1 (Y g))), some (.int (nI (cn g)))] [.int (nI wb + nI g), .ref 96] S1 Q := by
        refine b_Dealer_workShares_r56_75 (fun _ => b_Dealer_workShares_r56_90 hg (w_soa hg y1) (fun v S2 e => ?_)) (fun y => absurd ((nI_ltI (b := 40000) (by omega) (by omega)).mpr y1) y)
        obtain ⟨rfl, rfl⟩ := e
        refine fin _ ?_
        rw [ean, if_pos rfl, hF.1 61 _ (by omega), hF.1 62 _ (by omega), hF.1 63 _ (by omega), y2, y3, y4]
      refine b_Dealer_workShares_r56_53 vg (fun y => absurd y (by rw [ck, e28]; exact nI_pos (by omega))) (fun _ => ?_)
      rw [ck, e28]
      exact hs
    | false =>
      rw [ean, if_neg Bool.false_ne_true] at e28
      refine b_Dealer_workShares_r56_53 vg (fun _ => b_Dealer_workShares_r56_82 (fin _ ?_)) (fun y => absurd (by rw [ck, e28]; decide) y)
      rw [ean, if_neg Bool.false_ne_true]
/-- workShares() of the class -/
theorem w_ws (hg : ip_gk (lg_tbl, vwCl, Gr)) (hw : w ≤ 32) (hL : LGt X Y wb G) (hG : G ≤ 40000) (hwb : wb ≤ 256 * w) (h4 : S.1 24 4 = nI G) (h8 : S.1 24 8 = nI wb) (hX : ∀ g, g < G → S.1 25 g = X g ∧ S.1 26 g = Y g ∧ S.1 28 g = (if an g = true then nI (cn g) else -1) ∧ (an g = true → cn g < 40000 ∧ S.1 61 (cn g) = TA g ∧ S.1 62 (cn g) = TB g ∧ S.1 63 (cn g) = TC g)) : zMv l Gr (zc n w) 168 M_Dealer_workShares (d + 3) [.ref 91, .ref 56] S (fun S' => FWk wb S S' ∧ ∀ g, g < G → gFx 64 S' X Y TA TB TC an wb g) := by
  refine e_Dealer_workShares_r56 (b_Dealer_workShares_r56_0 hg (R := fun v S' => v = nI (wb + G) ∧ S' = S) (e_Circuit_wires (b_Circuit_wires_0 ⟨_, rfl, by rw [h8, h4, nI_add], rfl⟩)) (fun v S1 e => ?_))
  obtain ⟨rfl, rfl⟩ := e
  refine b_Dealer_workShares_r56_4 ?_
  rw [h4, nI_subb]
  exact ws_12 hg hw hL hG hwb h4 hX (fun S' a1 a2 => ⟨rfl, a1, a2⟩) G 0 _ (by omega) ⟨fun _ _ _ => rfl, fun _ _ => rfl⟩ (fun g' h => absurd h (Nat.not_lt_zero _))
theorem neg_and (h : x = 0 ∨ x = 1) : (-x) &&& B = if x = 1 then B else 0 := by
  rcases h with rfl | rfl
  · rw [if_neg (by decide)]
    show (-(0 : Int32)) &&& B = 0
    rw [show (-(0 : Int32)) = 0 from rfl]
    exact Int32.zero_and
  · rw [if_pos rfl]
    show (-1 : Int32) &&& B = B
    exact Int32.neg_one_and
theorem aKv_m : ((C ^^^ (if par (x ^^^ A) = 1 then B else 0)) ^^^ (if par (y ^^^ B) = 1 then A else 0)) ^^^ (par (x ^^^ A) &&& par (y ^^^ B)) = aKv A B C x y := by
  unfold aKv
  rw [neg_and par_01, neg_and par_01]
theorem ms_282 (hg : ip_gk (lg_tbl, vwCl, Gr)) (hL : LGt X Y wb G) (hG : G ≤ 40000) (hwb : wb ≤ 8192) (h66 : S0.1 73 66 = nI G) (h65 : S0.1 73 65 = nI wb) (hX : ∀ g, g < G → S0.1 113 g = X g ∧ S0.1 114 g = Y g ∧ (S0.1 111 g = 0 ↔ ¬ an g = true) ∧ (an g = true → S0.1 152 g = TA g ∧ S0.1 153 g = TB g ∧ S0.1 154 g = TC g)) (kk : ∀ S', FWm wb S0 S' → (∀ g, g < G → gFx 151 S' X Y TA TB TC an wb g) → Q none S') : ∀ c g S, g + c = G → FWm wb S0 S → (∀ g', g' < g → gFx 151 S X Y TA TB TC an wb g') → zW l Gr (zc n w) 168 M_Mo_shareAll (d + 2) 282 [some (.ref 105), some (.int (nI g)), none, none, none, none] [] S Q
  | 0, g, S, h, hF, h1 => by
    have e4 : S.1 73 66 = nI G := (hF.1 73 66 (by omega)).trans h66
    have eg : g = G := by omega
    subst eg
    exact b_Mo_shareAll_282 (fun _ => b_Mo_shareAll_427 (kk S hF h1)) (fun y => absurd (by rw [e4]; exact nI_le (Nat.le_refl _) (by omega)) y)
  | c + 1, g, S, h, hF, h1 => by
    have e4 : S.1 73 66 = nI G := (hF.1 73 66 (by omega)).trans h66
    have e65 : S.1 73 65 = nI wb := (hF.1 73 65 (by omega)).trans h65
    have ck : (nI g).toNatClampNeg = g := nI_clamp (by omega)
    have vg : vp_in (nI g) 40000 := vp_in_nI (by omega) (by omega)
    obtain ⟨x1, x2, x3, x4⟩ := hX g (by omega)
    obtain ⟨⟨a, ha, ea⟩, b, hb, eb⟩ := hL g (by omega)
    have e25 : S.1 113 g = X g := (hF.1 113 g (by omega)).trans x1
    have e26 : S.1 114 g = Y g := (hF.1 114 g (by omega)).trans x2
    have fin : ∀ v : Int32, (v = if an g = true then aKv (TA g) (TB g) (TC g) (shK 151 S (X g)) (shK 151 S (Y g)) else shK 151 S (X g) ^^^ shK 151 S (Y g)) → zW l Gr (zc n w) 168 M_Mo_shareAll (d + 2) 421 [some (.ref 105), some (.int (nI g)), none, none, none, none] [] (zi S 151 (wb + g) v) Q := fun v hv => by
      refine b_Mo_shareAll_421 ?_
      rw [show nI g + Int32.ofInt 1 = nI (g + 1) from nI_add g 1]
      refine ms_282 hg hL hG hwb h66 h65 hX kk c (g + 1) _ (by omega) ⟨fun c' k' q1 => ?_, fun c' k' => hF.2 c' k'⟩ (fun g' hg' => ?_)
      · rw [zi_get, if_neg (by omega)]
        exact hF.1 c' k' q1
      · by_cases z : g' = g
        · rw [z]
          exact gFx_new hL hG hwb (by omega) hv
        · exact gFx_zi hL hG hwb (by omega) (by omega) (h1 g' (by omega))
    refine b_Mo_shareAll_282 (fun y => absurd y (by rw [e4]; exact nI_ge (by omega) (by omega))) (fun _ => b_Mo_shareAll_290 hg vg (wm_sho (Or.inr ⟨a, by omega, by rw [ck, e25, ea]⟩)) (fun v S1 e => ?_))
    obtain ⟨rfl, rfl⟩ := e
    refine b_Mo_shareAll_300 hg vg (wm_sho (Or.inr ⟨b, by omega, by rw [ck, e26, eb]⟩)) (fun v S1 e => ?_)
    obtain ⟨rfl, rfl⟩ := e
    rw [ck, e25, e26]
    cases ean : an g with
    | true =>
      have n111 : ¬ S1.1 111 g = 0 := by
        rw [hF.1 111 g (by omega)]
        exact fun y => x3.mp y ean
      obtain ⟨y1, y2, y3⟩ := x4 ean
      have t1 : S1.1 152 g = TA g := (hF.1 152 g (by omega)).trans y1
      have t2 : S1.1 153 g = TB g := (hF.1 153 g (by omega)).trans y2
      have t3 : S1.1 154 g = TC g := (hF.1 154 g (by omega)).trans y3
      refine b_Mo_shareAll_311 vg (fun _ => b_Mo_shareAll_338 hg vg (wm_pary hg) (fun v S2 e => ?_)) (fun y => absurd (by rw [ck] at y; exact y) n111)
      obtain ⟨rfl, rfl⟩ := e
      refine b_Mo_shareAll_349 hg vg (wm_pary hg) (fun v S2 e => ?_)
      obtain ⟨rfl, rfl⟩ := e
      have k413 : ∀ p r : Int32, p = (if par (shK 151 S2 (X g) ^^^ TA g) = 1 then TB g else 0) → r = (if par (shK 151 S2 (Y g) ^^^ TB g) = 1 then TA g else 0) → zW l Gr (zc n w) 168 M_Mo_shareAll (d + 2) 413 [some (.ref 105), some (.int (nI g)), none, none, some (.int (par (shK 151 S2 (X g) ^^^ TA g))), some (.int (par (shK 151 S2 (Y g) ^^^ TB g)))] [.int r, .int (TC g ^^^ p), .int (nI wb + nI g), .ref 183] S2 Q := fun p r hp hr => by
        refine b_Mo_shareAll_413 (by rw [nI_add]; exact vp_in_nI (by omega) (by omega)) ?_
        rw [nI_add, nI_clamp (by omega)]
        refine fin _ ?_
        rw [ean, if_pos rfl, hp, hr]
        exact aKv_m
      have k396 : ∀ p : Int32, p = (if par (shK 151 S2 (X g) ^^^ TA g) = 1 then TB g else 0) → zW l Gr (zc n w) 168 M_Mo_shareAll (d + 2) 396 [some (.ref 105), some (.int (nI g)), none, none, some (.int (par (shK 151 S2 (X g) ^^^ TA g))), some (.int (par (shK 151 S2 (Y g) ^^^ TB g)))] [.int p, .int (TC g), .int (nI wb + nI g), .ref 183] S2 Q := fun p hp => by
        refine b_Mo_shareAll_396 (fun y => b_Mo_shareAll_412 (k413 p _ hp (if_neg y).symm)) (fun y => b_Mo_shareAll_403 vg ?_)
        rw [ck, t1]
        exact k413 p _ hp (if_pos y).symm
      have k362 : zW l Gr (zc n w) 168 M_Mo_shareAll (d + 2) 362 [some (.ref 105), some (.int (nI g)), none, none, some (.int (par (shK 151 S2 (X g) ^^^ TA g))), none] [.int (par (shK 151 S2 (Y g) ^^^ TB g))] S2 Q := by
        refine b_Mo_shareAll_362 vg (fun y => ?_) (fun y => ?_)
        · rw [ck, t3, e65]
          exact b_Mo_shareAll_395 (k396 _ (if_neg y).symm)
        · rw [ck, t3, e65]
          refine b_Mo_shareAll_386 vg ?_
          rw [ck, t2]
          exact k396 _ (if_pos y).symm
      rw [ck, t1, t2]
      exact k362
    | false =>
      have e111 : S1.1 111 g = 0 := by
        rw [hF.1 111 g (by omega)]
        exact x3.mpr (by rw [ean]; decide)
      refine b_Mo_shareAll_311 vg (fun y => absurd (by rw [ck]; exact e111) y) (fun _ => b_Mo_shareAll_321 (by rw [e65, nI_add]; exact vp_in_nI (by omega) (by omega)) ?_)
      rw [e65, nI_add, nI_clamp (by omega)]
      refine fin _ ?_
      rw [ean, if_neg Bool.false_ne_true]
/-- both have the same shares of every wire -/
theorem gFx_eq {c' : Nat} (hL : LGt X Y wb G) (hG : G ≤ 40000) (hwb : wb ≤ 8192) (hi : ∀ k, k < wb → S.1 c k = T.1 c' k) (h1 : ∀ g, g < G → gFx c S X Y TA TB TC an wb g) (h2 : ∀ g, g < G → gFx c' T X Y TA TB TC an wb g) : ∀ m, m ≤ wb + G → ∀ k, k < m → S.1 c k = T.1 c' k
  | 0, _, k, hk => absurd hk (Nat.not_lt_zero _)
  | m + 1, hm, k, hk => by
    have ih := gFx_eq hL hG hwb hi h1 h2 m (by omega)
    by_cases z : k < m
    · exact ih k z
    · by_cases z2 : k < wb
      · exact hi k z2
      · obtain ⟨g, rfl⟩ : ∃ g, k = wb + g := ⟨k - wb, by omega⟩
        obtain ⟨⟨a, ha, ea⟩, b, hb, eb⟩ := hL g (by omega)
        have q1 := h1 g (by omega)
        have q2 := h2 g (by omega)
        unfold gFx at q1 q2
        have s1 : shK c S (nI a) = shK c' T (nI a) := shK_eq (by omega) (ih _ (by omega))
        have s2 : shK c S (nI b) = shK c' T (nI b) := shK_eq (by omega) (ih _ (by omega))
        rw [ea, eb] at q1 q2
        rw [q1, q2, s1, s2]
end WSH
