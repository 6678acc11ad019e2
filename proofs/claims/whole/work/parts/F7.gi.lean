/-! give() and seed() on both -/
def gvS (S : zS) (k m : Nat) (s0 s1 : Int32) : zS := zi (zj (zi (zi S 21 k (nI m)) 0 16 s0) 118 k (lN m)) 73 119 s1
def gv0 (S : zS) : Int32 := if S.1 0 16 = 0 then 0 else if S.1 0 15 = 0 then 0 else 1
def gv1 (S : zS) : Int32 := if S.1 73 119 = 0 then 0 else if S.1 73 124 = 0 then 0 else 1
/-- one answer of both, P of the store behind -/
def oTw (l : Launch) (Gr : zG) (n w d : Nat) (Mc Mm : ip_M) (As : List Value) (S : zS) (P : zS → Prop) : Prop := ∃ (v : Int32) (S1 : zS), ip_RnM l (lg_tbl, vwCl, Gr) Mc d (.ref 32 :: As) (zP (zc n w) 168 S) (some (.int v), zP (zc n w) 168 S1) ∧ ∃ S2 : zS, ip_RnM l (lg_tbl, vwCl, Gr) Mm d (.ref 105 :: As) (zP (zc n w) 168 S1) (some (.int v), zP (zc n w) 168 S2) ∧ P S2
section GIV
variable {l : Launch} {Gr : zG} {n w d : Nat} {S S' : zS} {x1 x2 x : Int32}
theorem cl_give0 (h : x1 < 0 ∨ ¬ x1 < S.1 17 6) : zMi l Gr (zc n w) 168 M_H_give d [.ref 32, .int x1, .int x2] S (fun v S' => v = 0 ∧ S' = S) :=
  e_H_give (b_H_give_0 (fun _ => b_H_give_15 ⟨_, rfl, Or.inl rfl, rfl, rfl⟩) (fun z => b_H_give_4 (fun y => by
    rcases h with q | q
    · exact absurd q z
    · exact absurd y q) (fun _ => b_H_give_15 ⟨_, rfl, Or.inl rfl, rfl, rfl⟩)))
theorem mo_give0 (h : S.1 73 83 = 0 ∨ x1 < 0 ∨ ¬ x1 < S.1 73 75) : zMi l Gr (zc n w) 168 M_Mo_give d [.ref 105, .int x1, .int x2] S (fun v S' => v = 0 ∧ S' = S) :=
  e_Mo_give (b_Mo_give_0 (fun _ => b_Mo_give_19 ⟨_, rfl, Or.inl rfl, rfl, rfl⟩) (fun z => b_Mo_give_7 (fun _ => b_Mo_give_19 ⟨_, rfl, Or.inl rfl, rfl, rfl⟩) (fun z2 => b_Mo_give_11 (fun y => by
    rcases h with q | q | q
    · exact absurd q z
    · exact absurd q z2
    · exact absurd y q) (fun _ => b_Mo_give_19 ⟨_, rfl, Or.inl rfl, rfl, rfl⟩))))
theorem cl_give1 {k bt : Nat} (hk : k < 256) (h1 : nI k < S.1 17 6) (h19 : S.1 19 k = nI bt) (hb1 : 1 ≤ bt) (hb : bt ≤ 32) : zMi l Gr (zc n w) 168 M_H_give d [.ref 32, .int (nI k), .int x2] S (fun v S' => v = 1 ∧ S' = zi (zi S 21 k (nI (x2.toBitVec.toNat % 2 ^ bt))) 0 16 (gv0 S)) := by
  have ck : (nI k).toNatClampNeg = k := nI_clamp (by omega)
  refine e_H_give (b_H_give_0 (fun z => absurd z (nI_pos (by omega))) (fun _ => b_H_give_4 (fun _ => b_H_give_17 (vp_in_nI hk (by omega)) (fun q => b_H_give_61 (b_H_give_62 rfl ⟨_, rfl, Or.inr rfl, rfl, ?_⟩)) (fun q => b_H_give_50 (fun q2 => b_H_give_61 (b_H_give_62 rfl ⟨_, rfl, Or.inr rfl, rfl, ?_⟩)) (fun q2 => b_H_give_57 (b_H_give_62 rfl ⟨_, rfl, Or.inr rfl, rfl, ?_⟩)))) (fun z => absurd h1 z)))
  · rw [ck, h19, giv_i x2 hb1 hb]
    unfold gv0
    rw [if_pos q]
  · rw [zi_c (by decide)] at q2
    rw [ck, h19, giv_i x2 hb1 hb]
    unfold gv0
    rw [if_neg q, if_pos q2]
  · rw [zi_c (by decide)] at q2
    rw [ck, h19, giv_i x2 hb1 hb]
    unfold gv0
    rw [if_neg q, if_neg q2]
theorem mo_give1 {k bt : Nat} (hk : k < 256) (h83 : ¬ S.1 73 83 = 0) (h1 : nI k < S.1 73 75) (h116 : S.1 116 k = nI bt) (hb : bt ≤ 32) : zMi l Gr (zc n w) 168 M_Mo_give d [.ref 105, .int (nI k), .int x2] S (fun v S' => v = 1 ∧ S' = zi (zj S 118 k (lN (x2.toBitVec.toNat % 2 ^ bt))) 73 119 (gv1 S)) := by
  have ck : (nI k).toNatClampNeg = k := nI_clamp (by omega)
  refine e_Mo_give (b_Mo_give_0 (fun z => absurd z h83) (fun _ => b_Mo_give_7 (fun z => absurd z (nI_pos (by omega))) (fun _ => b_Mo_give_11 (fun _ => b_Mo_give_21 (vp_in_nI hk (by omega)) (fun q => b_Mo_give_59 (b_Mo_give_60 rfl ⟨_, rfl, Or.inr rfl, rfl, ?_⟩)) (fun q => b_Mo_give_48 (fun q2 => b_Mo_give_59 (b_Mo_give_60 rfl ⟨_, rfl, Or.inr rfl, rfl, ?_⟩)) (fun q2 => b_Mo_give_55 (b_Mo_give_60 rfl ⟨_, rfl, Or.inr rfl, rfl, ?_⟩)))) (fun z => absurd h1 z))))
  · rw [ck, h116, giv_l x2 hb]
    unfold gv1
    rw [if_pos q]
  · rw [show (zj S 118 _ _).1 73 124 = S.1 73 124 from rfl] at q2
    rw [ck, h116, giv_l x2 hb]
    unfold gv1
    rw [if_neg q, if_pos q2]
  · rw [show (zj S 118 _ _).1 73 124 = S.1 73 124 from rfl] at q2
    rw [ck, h116, giv_l x2 hb]
    unfold gv1
    rw [if_neg q, if_neg q2]
theorem gvS_n {k m c i : Nat} {s0 s1 : Int32} (h1 : ¬ (c = 21 ∧ i = k)) (h2 : ¬ (c = 0 ∧ i = 16)) (h3 : ¬ (c = 73 ∧ i = 119)) : (gvS S k m s0 s1).1 c i = S.1 c i := by
  unfold gvS
  rw [zi_get, if_neg h3, zj_get1, zi_get, if_neg h2, zi_get, if_neg h1]
theorem gvS_l {k m c i : Nat} {s0 s1 : Int32} : (gvS S k m s0 s1).2 c i = if c = 118 ∧ i = k then lN m else S.2 c i := by
  unfold gvS
  rw [zi_get2, zj_get]
  rfl
theorem oTw_same {Mc Mm : ip_M} {As : List Value} {P : zS → Prop} (hP : P S) (h1 : zMi l Gr (zc n w) 168 Mc d (.ref 32 :: As) S (fun v S' => v = x ∧ S' = S)) (h2 : zMi l Gr (zc n w) 168 Mm d (.ref 105 :: As) S (fun v S' => v = x ∧ S' = S)) : oTw l Gr n w d Mc Mm As S P := by
  obtain ⟨_, S1, ⟨v, rfl, rfl, rfl⟩, c1⟩ := h1
  obtain ⟨_, S2, ⟨v, rfl, rfl, rfl⟩, c2⟩ := h2
  exact ⟨_, _, c1, _, c2, hP⟩
/-- give() on both -/
theorem o_give (hw : 1 ≤ w ∧ w ≤ 32) (h : iBt n w S) : oTw l Gr n w d M_H_give M_Mo_give [.int x1, .int x2] S (fun S2 => S2 = S ∨ (S.1 0 14 = 1 ∧ iBt n w S2 ∧ ∃ k m, S2 = gvS S k m (gv0 S) (gv1 S))) := by
  by_cases z1 : x1 < 0
  · exact oTw_same (Or.inl rfl) (cl_give0 (Or.inl z1)) (mo_give0 (Or.inr (Or.inl z1)))
  · rcases h with ⟨h14, h83, h6, -⟩ | ⟨h14, h83, ck⟩
    · exact oTw_same (Or.inl rfl) (cl_give0 (Or.inr (by rw [h6]; exact z1))) (mo_give0 (Or.inl h83))
    · have ck0 := ck
      obtain ⟨g, Dm, iw, no, bo, -, -, -, -, ⟨hiw, h6, -, h75, -, hin, -⟩, -⟩ := ck
      obtain ⟨k, hk, rfl⟩ := nI_of z1
      by_cases zk : k < iw
      · obtain ⟨o, bt, i1, i2, i3, i4, i5, i6, i7, i8, i9⟩ := hin k zk
        have hb1 : 1 ≤ bt := by omega
        have hb : bt ≤ 32 := by omega
        have hlt : nI k < nI iw := (nI_ltI hk (by omega)).mpr zk
        obtain ⟨_, S1, ⟨v, rfl, rfl, e1⟩, c1⟩ := cl_give1 (l := l) (Gr := Gr) (n := n) (w := w) (d := d) (x2 := x2) (show k < 256 by omega) (by rw [h6]; exact hlt) i4 hb1 hb
        have f : ∀ c i, 73 ≤ c → S1.1 c i = S.1 c i := fun c i q => by rw [e1, zi_c (by omega), zi_c (by omega)]
        obtain ⟨_, S2, ⟨v, rfl, rfl, e2⟩, c2⟩ := mo_give1 (l := l) (Gr := Gr) (n := n) (w := w) (d := d) (S := S1) (x2 := x2) (bt := bt) (show k < 256 by omega) (by rw [f 73 83 (by omega), h83]; decide) (by rw [f 73 75 (by omega), h75]; exact hlt) (by rw [f 116 k (by omega)]; exact i7) hb
        have eg : gv1 S1 = gv1 S := by
          unfold gv1
          rw [f 73 119 (by omega), f 73 124 (by omega)]
        have e3 : S2 = gvS S k (x2.toBitVec.toNat % 2 ^ bt) (gv0 S) (gv1 S) := by rw [e2, eg, e1]; rfl
        refine ⟨_, _, c1, S2, c2, Or.inr ⟨h14, ?_, k, _, e3⟩⟩
        rw [e3]
        refine Or.inr ⟨(gvS_n (by omega) (by omega) (by omega)).trans h14, (gvS_n (by omega) (by omega) (by omega)).trans h83, iCk_fr ck0 (fun c i q => gvS_n (by omega) (by omega) (by omega)) (fun a bt' q1 q2 q3 => ?_)⟩
        rw [gvS_l]
        by_cases za : a = k
        · subst za
          have : bt' = bt := (nI_eq (by omega) (by omega)).mp (q2.symm.trans i4)
          subst this
          rw [if_pos ⟨rfl, rfl⟩]
          refine ⟨_, Nat.mod_lt _ (Nat.two_pow_pos _), ?_, rfl⟩
          unfold gvS
          rw [zi_c (by decide), zj_get1, zi_c (by decide)]
          exact zi_v
        · rw [if_neg (fun y => za y.2), gvS_n (fun y => za y.2) (by omega) (by omega)]
          exact q3
      · have hlt : ¬ nI k < nI iw := fun y => zk ((nI_ltI hk (by omega)).mp y)
        exact oTw_same (Or.inl rfl) (cl_give0 (Or.inr (by rw [h6]; exact hlt))) (mo_give0 (Or.inr (Or.inr (by rw [h75]; exact hlt))))
theorem o_seed : ip_RnM l (lg_tbl, vwCl, Gr) M_H_seed d [.ref 32, .int x1] (zP (zc n w) 168 S) (none, zP (zc n w) 168 (zi S 59 4 x1)) ∧ ip_RnM l (lg_tbl, vwCl, Gr) M_Mo_seed d [.ref 105, .int x1] (zP (zc n w) 168 (zi S 59 4 x1)) (none, zP (zc n w) 168 (zi (zi S 59 4 x1) 73 120 x1)) := by
  have h1 : zMv l Gr (zc n w) 168 M_H_seed d [.ref 32, .int x1] S (fun X => X = zi S 59 4 x1) := e_H_seed (b_H_seed_0 ⟨rfl, rfl⟩)
  have h2 : zMv l Gr (zc n w) 168 M_Mo_seed d [.ref 105, .int x1] (zi S 59 4 x1) (fun X => X = zi (zi S 59 4 x1) 73 120 x1) := e_Mo_seed (b_Mo_seed_0 ⟨rfl, rfl⟩)
  obtain ⟨_, S1, ⟨rfl, rfl⟩, c1⟩ := h1
  obtain ⟨_, S2, ⟨rfl, rfl⟩, c2⟩ := h2
  exact ⟨c1, c2⟩
end GIV
