/-! the class's SORTS: the larger methods -/
def kName (b : Nat → Int32) (t : Nat) (S : zS) (i : Nat) : zS :=
  if kFind b t S (S.1 6 i).toNatClampNeg = -1 then kRes b t S i else
    kPush (if (kRes b t S i).1 11 (kFind b t S (S.1 6 i).toNatClampNeg).toNatClampNeg = 4 ∨ ¬ (kRes b t S i).1 13 (kFind b t S (S.1 6 i).toNatClampNeg).toNatClampNeg ≤ 0 then kT (kRes b t S i) 5 (S.1 6 i) else kRes b t S i)
      (S.1 12 (kFind b t S (S.1 6 i).toNatClampNeg).toNatClampNeg ||| (if S.1 11 (kFind b t S (S.1 6 i).toNatClampNeg).toNatClampNeg = 2 then 2 else 0))
def kHead (b : Nat → Int32) (t : Nat) (S : zS) (i : Nat) (call : Bool) : zS :=
  if kFind b t S (S.1 6 i).toNatClampNeg = -1 then kRes b t S i else
    if (if call then S.1 11 (kFind b t S (S.1 6 i).toNatClampNeg).toNatClampNeg = 4 ∧ S.1 15 (kFind b t S (S.1 6 i).toNatClampNeg).toNatClampNeg = S.1 7 i else ¬ S.1 13 (kFind b t S (S.1 6 i).toNatClampNeg).toNatClampNeg ≤ 0) then kRes b t S i else kT (kRes b t S i) 5 (S.1 6 i)
def kTarget (b : Nat → Int32) (t : Nat) (S : zS) (i : Nat) (el : Bool) : zS :=
  if kFind b t S (S.1 6 i).toNatClampNeg = -1 then kRes b t S i else
    if S.1 11 (kFind b t S (S.1 6 i).toNatClampNeg).toNatClampNeg = 1 ∧ (if S.1 13 (kFind b t S (S.1 6 i).toNatClampNeg).toNatClampNeg ≤ 0 then 0 else 1) = (if el then (1 : Int32) else 0) then kRes b t S i else kT (kRes b t S i) 5 (S.1 6 i)
def kCloseIf (S : zS) (h : Nat) : zS :=
  let S1 := zi (zi (zi S 39 9 (S.1 39 9 - 1)) 5 h (S.1 43 (S.1 39 9 - 1).toNatClampNeg)) 7 h (ip_max 0 (ip_min (S.1 44 (S.1 39 9 - 1).toNatClampNeg) (S.1 42 (S.1 39 9 - 1).toNatClampNeg) - S.1 43 (S.1 39 9 - 1).toNatClampNeg))
  if S.1 39 9 - 1 ≤ 0 then S1 else kWiden S1 (S.1 39 9 - 1 - 1).toNatClampNeg (S.1 43 (S.1 39 9 - 1).toNatClampNeg) (S.1 44 (S.1 39 9 - 1).toNatClampNeg)
section SK3
variable {l : Launch} {Gr : zG} {n w : Nat} {d : Nat} {b : Nat → Int32} {t p i m f D tp : Nat} {S S' : zS}
theorem kRes_c {c k : Nat} (h1 : ¬ (c = 3 ∧ (k = 5 ∨ k = 6))) (h2 : ¬ (c = 5 ∧ k = i)) : (kRes b t S i).1 c k = S.1 c k := by
  unfold kRes
  rw [zi_get, if_neg h2]
  by_cases z : kFind b t S (S.1 6 i).toNatClampNeg = -1
  · rw [if_pos z]; exact kT_c h1
  · rw [if_neg z]
theorem w_checkName (hg : ip_gk (lg_tbl, vwCl, Gr)) (hT : KT b t D S) (hV : KV S m f D) (hi : i < 4000) (hp : p ≤ t) (h6 : S.1 6 i = nI p) (h3 : S.1 39 3 = nI tp) (htp : tp < 372) : zMv l Gr (zc n w) 168 M_Sorts_checkName (d + 4) [.ref 71, .int (nI i)] S (fun S' => S' = kName b t S i) := by
  have ht := hT.2.1
  have hD := hT.2.2.2.2
  have ep : (S.1 6 i).toNatClampNeg = p := by rw [h6]; exact nI_clamp (by omega)
  refine e_Sorts_checkName (b_Sorts_checkName_0 hg (w_resolve hg hT hV hi hp h6) (fun v A hv => ?_))
  rw [hv.1, hv.2]
  obtain ⟨X, eX⟩ : ∃ X, X = kRes b t S i := ⟨_, rfl⟩
  have kX : ∀ c k, ¬ (c = 3 ∧ (k = 5 ∨ k = 6)) → ¬ (c = 5 ∧ k = i) → X.1 c k = S.1 c k := fun c k a1 a2 => by rw [eX]; exact kRes_c a1 a2
  have ek : kName b t S i = if kFind b t S p = -1 then X else kPush (if X.1 11 (kFind b t S p).toNatClampNeg = 4 ∨ ¬ X.1 13 (kFind b t S p).toNatClampNeg ≤ 0 then kT X 5 (S.1 6 i) else X) (S.1 12 (kFind b t S p).toNatClampNeg ||| (if S.1 11 (kFind b t S p).toNatClampNeg = 2 then 2 else 0)) := by
    unfold kName; rw [ep, eX]
  rw [ek, ← eX]
  rcases kFind_in (b := b) (t := t) (p := p) hV with e | ⟨u, dd, hu, hd, -, e⟩
  · rw [e]
    exact b_Sorts_checkName_5 (fun y => absurd rfl y) (fun _ => b_Sorts_checkName_11 ⟨rfl, by rw [if_pos rfl]⟩)
  · have hno := nI_no (v := dd) (by omega)
    have hin : vp_in (nI dd) 800 := vp_in_nI (by omega) (by omega)
    rw [e, if_neg hno, nI_clamp (by omega)]
    have fin : ∀ Y, Y.1 39 3 = nI tp → (∀ k, Y.1 11 k = S.1 11 k ∧ Y.1 12 k = S.1 12 k) → zW l Gr (zc n w) 168 M_Sorts_checkName (d + 4) 53 [some (.ref 71), none, some (.int (nI dd))] [] Y (fun v S' => v = none ∧ S' = kPush Y (S.1 12 dd ||| (if S.1 11 dd = 2 then 2 else 0))) := fun Y y3 y11 => by
      refine b_Sorts_checkName_53 hin (fun z => b_Sorts_checkName_80 ?_) (fun z => b_Sorts_checkName_76 ?_)
      · rw [nI_clamp (by omega), (y11 dd).1] at z
        rw [nI_clamp (by omega), (y11 dd).2]
        refine b_Sorts_checkName_81 hg (w_push y3 htp) (fun A eA => b_Sorts_checkName_85 ⟨rfl, ?_⟩)
        rw [eA, if_neg z]
      · rw [nI_clamp (by omega), (y11 dd).1] at z
        rw [nI_clamp (by omega), (y11 dd).2]
        refine b_Sorts_checkName_81 hg (w_push y3 htp) (fun A eA => b_Sorts_checkName_85 ⟨rfl, ?_⟩)
        rw [eA, if_pos z]
    have x3 : X.1 39 3 = nI tp := (kX 39 3 (by omega) (by omega)).trans h3
    have x11 : ∀ k, X.1 11 k = S.1 11 k ∧ X.1 12 k = S.1 12 k := fun k => ⟨kX 11 k (by omega) (by omega), kX 12 k (by omega) (by omega)⟩
    have x6 : X.1 6 i = S.1 6 i := kX 6 i (by omega) (by omega)
    have bad : (X.1 11 dd = 4 ∨ ¬ X.1 13 dd ≤ 0) → zW l Gr (zc n w) 168 M_Sorts_checkName (d + 4) 36 [some (.ref 71), some (.int (nI i)), some (.int (nI dd))] [] X (fun v S' => v = none ∧ S' = kPush (if X.1 11 dd = 4 ∨ ¬ X.1 13 dd ≤ 0 then kT X 5 (S.1 6 i) else X) (S.1 12 dd ||| (if S.1 11 dd = 2 then 2 else 0))) := fun hb => by
      rw [if_pos hb]
      refine b_Sorts_checkName_36 hg (vp_in_nI hi (by omega)) w_tl (fun A eA => ?_)
      rw [eA, nI_clamp (by omega), x6]
      exact fin _ ((kT_c (by omega)).trans x3) (fun k => ⟨(kT_c (by omega)).trans (x11 k).1, (kT_c (by omega)).trans (x11 k).2⟩)
    refine b_Sorts_checkName_5 (fun _ => b_Sorts_checkName_12 hin (fun z => ?_) (fun z => b_Sorts_checkName_25 hg (w_isArr (by omega)) (fun v A hv => ?_))) (fun y => absurd y hno)
    · rw [nI_clamp (by omega)] at z
      exact bad (Or.inl z)
    · rw [nI_clamp (by omega)] at z
      rw [hv.1, hv.2]
      by_cases y : X.1 13 dd ≤ 0
      · rw [if_pos y]
        refine b_Sorts_checkName_33 (fun _ => ?_) (fun x => absurd rfl x)
        rw [if_neg (fun x => x.elim z (fun x => x y))]
        exact fin X x3 x11
      · rw [if_neg y]
        exact b_Sorts_checkName_33 (fun x => absurd x (by decide)) (fun _ => bad (Or.inr y))
theorem w_checkHead (hg : ip_gk (lg_tbl, vwCl, Gr)) {call : Bool} (hT : KT b t D S) (hV : KV S m f D) (hi : i < 4000) (hp : p ≤ t) (h6 : S.1 6 i = nI p) : zMv l Gr (zc n w) 168 M_Sorts_checkHead (d + 4) [.ref 71, .int (nI i), .int (if call then 1 else 0)] S (fun S' => S' = kHead b t S i call) := by
  have ht := hT.2.1
  have hD := hT.2.2.2.2
  have ep : (S.1 6 i).toNatClampNeg = p := by rw [h6]; exact nI_clamp (by omega)
  refine e_Sorts_checkHead (b_Sorts_checkHead_0 hg (w_resolve hg hT hV hi hp h6) (fun v A hv => ?_))
  rw [hv.1, hv.2]
  unfold kHead
  rw [ep]
  obtain ⟨X, eX⟩ : ∃ X, X = kRes b t S i := ⟨_, rfl⟩
  have kX : ∀ c k, ¬ (c = 3 ∧ (k = 5 ∨ k = 6)) → ¬ (c = 5 ∧ k = i) → X.1 c k = S.1 c k := fun c k a1 a2 => by rw [eX]; exact kRes_c a1 a2
  rw [← eX]
  rcases kFind_in (b := b) (t := t) (p := p) hV with e | ⟨u, dd, hu, hd, -, e⟩
  · rw [e]
    exact b_Sorts_checkHead_5 (fun y => absurd rfl y) (fun _ => b_Sorts_checkHead_11 ⟨rfl, by rw [if_pos rfl]⟩)
  · have hno := nI_no (v := dd) (by omega)
    have hin : vp_in (nI dd) 800 := vp_in_nI (by omega) (by omega)
    rw [e, if_neg hno, nI_clamp (by omega)]
    have x6 : X.1 6 i = S.1 6 i := kX 6 i (by omega) (by omega)
    have x11 : X.1 11 dd = S.1 11 dd := kX 11 dd (by omega) (by omega)
    have x13 : X.1 13 dd = S.1 13 dd := kX 13 dd (by omega) (by omega)
    have x15 : X.1 15 dd = S.1 15 dd := kX 15 dd (by omega) (by omega)
    have x7 : X.1 7 i = S.1 7 i := kX 7 i (by omega) (by omega)
    obtain ⟨P, eP⟩ : ∃ P : Prop, P = (if call then S.1 11 dd = 4 ∧ S.1 15 dd = S.1 7 i else ¬ S.1 13 dd ≤ 0) := ⟨_, rfl⟩
    have good : P → zW l Gr (zc n w) 168 M_Sorts_checkHead (d + 4) 66 [some (.ref 71), some (.int (nI i)), none, none, none] [.int 1] X (fun v S' => v = none ∧ S' = if (if call then S.1 11 dd = 4 ∧ S.1 15 dd = S.1 7 i else ¬ S.1 13 dd ≤ 0) then X else kT X 5 (S.1 6 i)) := fun h => by
      rw [eP] at h
      exact b_Sorts_checkHead_66 (fun _ => b_Sorts_checkHead_90 ⟨rfl, by rw [if_pos h]⟩) (fun y => absurd y (by decide))
    have bad : ¬ P → zW l Gr (zc n w) 168 M_Sorts_checkHead (d + 4) 66 [some (.ref 71), some (.int (nI i)), none, none, none] [.int 0] X (fun v S' => v = none ∧ S' = if (if call then S.1 11 dd = 4 ∧ S.1 15 dd = S.1 7 i else ¬ S.1 13 dd ≤ 0) then X else kT X 5 (S.1 6 i)) := fun h => by
      rw [eP] at h
      refine b_Sorts_checkHead_66 (fun y => absurd rfl y) (fun _ => b_Sorts_checkHead_73 hg (vp_in_nI hi (by omega)) w_tl (fun A eA => b_Sorts_checkHead_90 ⟨rfl, ?_⟩))
      rw [eA, nI_clamp (by omega), x6, if_neg h]
    cases call with
    | true =>
      refine b_Sorts_checkHead_5 (fun _ => b_Sorts_checkHead_12 (fun y => absurd y (by decide)) (fun _ => b_Sorts_checkHead_16 hin (fun z => b_Sorts_checkHead_54 (bad (fun y => z ?_))) (fun z => b_Sorts_checkHead_29 hin (vp_in_nI hi (by omega)) (fun y => b_Sorts_checkHead_54 (bad (fun x => y ?_))) (fun y => b_Sorts_checkHead_50 (good ?_))))) (fun y => absurd y hno)
      · rw [eP, if_pos rfl] at y
        rw [nI_clamp (by omega), x11]; exact y.1
      · rw [eP, if_pos rfl] at x
        rw [nI_clamp (by omega), nI_clamp (by omega), x15, x7]; exact x.2
      · rw [nI_clamp (by omega), x11] at z
        rw [nI_clamp (by omega), nI_clamp (by omega), x15, x7] at y
        rw [eP, if_pos rfl]; exact ⟨z, y⟩
    | false =>
      refine b_Sorts_checkHead_5 (fun _ => b_Sorts_checkHead_12 (fun _ => b_Sorts_checkHead_58 hg (w_isArr (by omega)) (fun v A hv => ?_)) (fun y => absurd rfl y)) (fun y => absurd y hno)
      rw [hv.1, hv.2, x13]
      by_cases y : S.1 13 dd ≤ 0
      · rw [if_pos y]
        refine bad (fun x => ?_)
        rw [eP, if_neg (by decide)] at x
        exact x y
      · rw [if_neg y]
        refine good ?_
        rw [eP, if_neg (by decide)]
        exact y
theorem w_checkTarget (hg : ip_gk (lg_tbl, vwCl, Gr)) {el : Bool} (hT : KT b t D S) (hV : KV S m f D) (hi : i < 4000) (hp : p ≤ t) (h6 : S.1 6 i = nI p) : zMv l Gr (zc n w) 168 M_Sorts_checkTarget (d + 4) [.ref 71, .int (nI i), .int (if el then 1 else 0)] S (fun S' => S' = kTarget b t S i el) := by
  have ht := hT.2.1
  have hD := hT.2.2.2.2
  have ep : (S.1 6 i).toNatClampNeg = p := by rw [h6]; exact nI_clamp (by omega)
  refine e_Sorts_checkTarget (b_Sorts_checkTarget_0 hg (w_resolve hg hT hV hi hp h6) (fun v A hv => ?_))
  rw [hv.1, hv.2]
  unfold kTarget
  rw [ep]
  obtain ⟨X, eX⟩ : ∃ X, X = kRes b t S i := ⟨_, rfl⟩
  have kX : ∀ c k, ¬ (c = 3 ∧ (k = 5 ∨ k = 6)) → ¬ (c = 5 ∧ k = i) → X.1 c k = S.1 c k := fun c k a1 a2 => by rw [eX]; exact kRes_c a1 a2
  rw [← eX]
  rcases kFind_in (b := b) (t := t) (p := p) hV with e | ⟨u, dd, hu, hd, -, e⟩
  · rw [e]
    exact b_Sorts_checkTarget_5 (fun _ => b_Sorts_checkTarget_53 ⟨rfl, by rw [if_pos rfl]⟩) (fun y => absurd rfl y)
  · have hno := nI_no (v := dd) (by omega)
    have hin : vp_in (nI dd) 800 := vp_in_nI (by omega) (by omega)
    rw [e, if_neg hno, nI_clamp (by omega)]
    have x6 : X.1 6 i = S.1 6 i := kX 6 i (by omega) (by omega)
    have x11 : X.1 11 dd = S.1 11 dd := kX 11 dd (by omega) (by omega)
    have x13 : X.1 13 dd = S.1 13 dd := kX 13 dd (by omega) (by omega)
    have bad : ¬ (S.1 11 dd = 1 ∧ (if S.1 13 dd ≤ 0 then 0 else 1) = (if el then (1 : Int32) else 0)) → zW l Gr (zc n w) 168 M_Sorts_checkTarget (d + 4) 36 [some (.ref 71), some (.int (nI i)), none, none] [] X (fun v S' => v = none ∧ S' = if S.1 11 dd = 1 ∧ (if S.1 13 dd ≤ 0 then 0 else 1) = (if el then (1 : Int32) else 0) then X else kT X 5 (S.1 6 i)) := fun h => by
      refine b_Sorts_checkTarget_36 hg (vp_in_nI hi (by omega)) w_tl (fun A eA => b_Sorts_checkTarget_53 ⟨rfl, ?_⟩)
      rw [eA, nI_clamp (by omega), x6, if_neg h]
    refine b_Sorts_checkTarget_5 (fun y => absurd y hno) (fun _ => b_Sorts_checkTarget_11 hin (fun z => bad (fun y => z ?_)) (fun z => b_Sorts_checkTarget_24 hg (w_isArr (by omega)) (fun v A hv => ?_)))
    · rw [nI_clamp (by omega), x11]; exact y.1
    · rw [nI_clamp (by omega), x11] at z
      rw [hv.1, hv.2, x13]
      refine b_Sorts_checkTarget_32 (fun y => b_Sorts_checkTarget_53 ⟨rfl, ?_⟩) (fun y => bad (fun x => y x.2))
      rw [if_pos ⟨z, y⟩]
theorem w_closeIf (hg : ip_gk (lg_tbl, vwCl, Gr)) {h : Nat} (hh : h < 4000) (h9 : S.1 39 9 = nI (m + 1)) (hm : m < 31) : zMv l Gr (zc n w) 168 M_Sorts_closeIf (d + 2) [.ref 71, .int (nI h)] S (fun S' => S' = kCloseIf S h) := by
  have e1 : S.1 39 9 - 1 = nI m := by rw [h9]; exact nI_pred m
  refine e_Sorts_closeIf (b_Sorts_closeIf_0 (fun _ => b_Sorts_closeIf_8 (by rw [e1]; exact vp_in_nI hm (by omega)) (vp_in_nI hh (by omega)) (fun z => b_Sorts_closeIf_115 ⟨rfl, ?_⟩) (fun z => ?_)) (fun z => ?_))
  · unfold kCloseIf
    rw [if_pos z, nI_clamp (by omega)]
  · have z' := z
    rw [e1] at z
    cases m with
    | zero => exact absurd (by decide) z
    | succ m =>
      rw [nI_clamp (n := h) (by omega)]
      obtain ⟨X, eX⟩ : ∃ X, X = zi (zi (zi S 39 9 (S.1 39 9 - 1)) 5 h (S.1 43 (S.1 39 9 - 1).toNatClampNeg)) 7 h (ip_max 0 (ip_min (S.1 44 (S.1 39 9 - 1).toNatClampNeg) (S.1 42 (S.1 39 9 - 1).toNatClampNeg) - S.1 43 (S.1 39 9 - 1).toNatClampNeg)) := ⟨_, rfl⟩
      have ek : kCloseIf S h = kWiden X (S.1 39 9 - 1 - 1).toNatClampNeg (S.1 43 (S.1 39 9 - 1).toNatClampNeg) (S.1 44 (S.1 39 9 - 1).toNatClampNeg) := by
        unfold kCloseIf
        rw [if_neg z', eX]
      have x9 : X.1 39 9 = nI (m + 1) := by rw [eX, zi_c (by decide), zi_c (by decide), e1]; exact zi_v
      have x43 : ∀ k, X.1 43 k = S.1 43 k ∧ X.1 44 k = S.1 44 k := fun k => by
        rw [eX]
        exact ⟨by rw [zi_c (by decide), zi_c (by decide), zi_c (by decide)], by rw [zi_c (by decide), zi_c (by decide), zi_c (by decide)]⟩
      rw [ek, ← eX]
      refine b_Sorts_closeIf_87 hg (by rw [x9]; exact vp_in_nI (by omega) (by omega)) (w_widen (k := m) (by rw [x9]; exact nI_pred m) (by omega)) (fun A eA => b_Sorts_closeIf_115 ⟨rfl, ?_⟩)
      rw [eA, x9, e1, nI_clamp (by omega), nI_pred, nI_clamp (by omega), (x43 _).1, (x43 _).2]
  · rw [h9] at z
    exact absurd ((nI_eq (a := m + 1) (b := 0) (by omega) (by omega)).mp z) (by omega)
end SK3
