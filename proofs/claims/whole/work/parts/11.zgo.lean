theorem ip_h_nil (n : Nat) : ip_h [] n = none := by
  unfold ip_h
  split <;> simp
set_option maxHeartbeats 2000000 in
theorem ip_ins_fr {V : ip_V} {mL : Nat} {ins : Instr} {pc pc' : Nat} {L L' : zL} {st st' : List Value} (h : ip_H) (hs : ip_ins V mL false ins pc L st [] = some (pc', L', st', [])) : ip_ins V mL false ins pc L st h = some (pc', L', st', h) := by
  cases ins <;> simp only [ip_ins, ip_h_nil, ip_pu, Bool.cond_eq_ite] at hs ⊢ <;> first
    | (cases hs; rfl)
    | (cases hs; done)
    | (repeat' split at hs) <;> simp_all
theorem zget_ok {zc : zC} {K : Nat} {S : zS} {a ci k : Nat} {v : Value} (h : zget zc K S a ci k = some v) : ∃ fs, ip_h (zP zc K S) a = some (.inr (ci, fs)) ∧ fs[k]? = some v := by
  unfold zget at h
  cases hb : (Nat.ble 32 a && Nat.blt a (K + 32)) with
  | false => rw [hb] at h; cases h
  | true =>
    rw [hb] at h
    simp only [Bool.and_eq_true] at hb
    have h1 := Nat.le_of_ble_eq_true hb.1
    have h2 : a < K + 32 := Nat.le_of_ble_eq_true hb.2
    have h3 := z_h (zc := zc) (K := K) (S := S) (c := a - 32) (by omega)
    rw [Nat.sub_add_cancel h1] at h3
    simp only [cond_true] at h
    split at h
    · next cj fs hz =>
      cases hc : Nat.beq ci cj with
      | false => rw [hc] at h; cases h
      | true =>
        rw [hc] at h
        have e : ci = cj := Nat.eq_of_beq_eq_true hc
        subst e
        exact ⟨fs, by rw [h3, hz], h⟩
    · cases h
theorem zlen_ok {zc : zC} {K : Nat} {S : zS} {a v : Nat} (h : zlen zc K S a = some v) : ∃ (ty : FieldType) (x : vp_A), ip_h (zP zc K S) a = some (.inl (ty, x)) ∧ x.1 = v ∧ (ty = .int ∨ ty = .byte ∨ ty = .boolean ∨ ty = .long) := by
  unfold zlen at h
  cases hb : (Nat.ble 32 a && Nat.blt a (K + 32)) with
  | false => rw [hb] at h; cases h
  | true =>
    rw [hb] at h
    simp only [Bool.and_eq_true] at hb
    have h1 := Nat.le_of_ble_eq_true hb.1
    have h2 : a < K + 32 := Nat.le_of_ble_eq_true hb.2
    have h3 := z_h (zc := zc) (K := K) (S := S) (c := a - 32) (by omega)
    rw [Nat.sub_add_cancel h1] at h3
    simp only [cond_true] at h
    split at h
    · next x hz => exact ⟨_, x, by rw [h3, hz], Option.some.inj h, Or.inl rfl⟩
    · next x hz => exact ⟨_, x, by rw [h3, hz], Option.some.inj h, Or.inr (Or.inl rfl)⟩
    · next x hz => exact ⟨_, x, by rw [h3, hz], Option.some.inj h, Or.inr (Or.inr (Or.inl rfl))⟩
    · next x hz => exact ⟨_, x, by rw [h3, hz], Option.some.inj h, Or.inr (Or.inr (Or.inr rfl))⟩
    · cases h
theorem zins_ok {l : Launch} {Gr : zG} {zc : zC} {K : Nat} {M : ip_M} {d pc pc' : Nat} {L L' : zL} {st st' : List Value} {S : zS} {V : ip_V} {ins : Instr} {r : Option Value × ip_H} (hV : ip_okV lg_tbl vwCl M V) (hq : decode M.2.1 pc = .ok (ins, ip_len pc ins))
    (hs : zins zc K V M.2.2.1 ins pc L st S = some (pc', L', st')) (k : ip_Rn l (lg_tbl, vwCl, Gr) M d pc' L' st' (zP zc K S) r) : ip_Rn l (lg_tbl, vwCl, Gr) M d pc L st (zP zc K S) r := by
  unfold zins at hs
  split at hs
  · next i =>
    split at hs
    · next a st1 =>
      split at hs
      · next ci kk ty fin hl =>
        split at hs
        · next v hv =>
          cases hs
          obtain ⟨fs, h1, h2⟩ := zget_ok hv
          exact ip_getf (G := (lg_tbl, vwCl, Gr)) hq (hV.2.1 _ (ip_lk_mem hl)).1 h1 h2 k
        · cases hs
      · cases hs
    · cases hs
  · split at hs
    · next a st1 =>
      split at hs
      · next v hv =>
        cases hs
        obtain ⟨ty, x, h1, h2, h3⟩ := zlen_ok hv
        refine ip_alen (G := (lg_tbl, vwCl, Gr)) hq h1 ?_ (by rw [h2]) k
        rcases h3 with rfl | rfl | rfl | rfl <;> rfl
      · cases hs
    · cases hs
  · split at hs
    · next e =>
      cases hs
      exact ip_ins_ok (G := (lg_tbl, vwCl, Gr)) (ini := false) hV (fun q => Bool.noConfusion q) hq (ip_ins_fr _ e) k
    · cases hs
theorem zsts_ok {l : Launch} {Gr : zG} {zc : zC} {K : Nat} {M : ip_M} {d : Nat} {S : zS} {V : ip_V} {r : Option Value × ip_H} (hV : ip_okV lg_tbl vwCl M V) : ∀ (n : Nat) {a1 b1 : Nat} {a2 b2 : zL} {a3 b3 : List Value}, zsts zc K V M.2.2.1 S n (a1, a2, a3) = some (b1, b2, b3) → ip_Rn l (lg_tbl, vwCl, Gr) M d b1 b2 b3 (zP zc K S) r → ip_Rn l (lg_tbl, vwCl, Gr) M d a1 a2 a3 (zP zc K S) r
  | 0, a1, b1, a2, b2, a3, b3, hs, k => by cases hs; exact k
  | n + 1, a1, b1, a2, b2, a3, b3, hs, k => by
    unfold zsts at hs
    split at hs
    · next i hi =>
      split at hs
      · next σ1 h1 =>
        obtain ⟨c1, c2, c3⟩ := σ1
        have ih := zsts_ok (l := l) (Gr := Gr) (zc := zc) (K := K) (M := M) (d := d) (S := S) (V := V) (r := r) hV n (a1 := c1) (a2 := c2) (a3 := c3) hs k
        have hq := hV.1 _ (ip_lk_mem hi)
        exact zins_ok (pc := a1) (pc' := c1) (L := a2) (L' := c2) (st := a3) (st' := c3) hV hq h1 ih
      · cases hs
    · cases hs
theorem z_go {l : Launch} {Gr : zG} {zc : zC} {K : Nat} {M : ip_M} {d : Nat} {S : zS} {Q : Option Value → zS → Prop} {V : ip_V} (hV : ip_okV lg_tbl vwCl M V) (n : Nat) {pc pc' : Nat} {L L' : zL} {st st' : List Value} (hs : zsts zc K V M.2.2.1 S n (pc, L, st) = some (pc', L', st')) (k : zW l Gr zc K M d pc' L' st' S Q) : zW l Gr zc K M d pc L st S Q :=
  z_step (fun _ h => zsts_ok hV n hs h) k
/-! library methods that are no calls of ours -/
section ZB
variable {l : Launch} {Gr : zG} {zc : zC} {K : Nat} {M : ip_M} {d pc : Nat} {L : zL} {st : List Value} {S : zS} {Q : Option Value → zS → Prop}
theorem z_max {idx : Nat} {x y : Int32} (hd : decode M.2.1 pc = .ok (.invokestatic idx, 3))
    (hw : Cond.methodLink M.1.cls idx Lib.Math.max.name ∈ lg_tbl ∧ Cond.static Lib.Math.max.name ∈ lg_tbl ∧ Cond.initialized "java/lang/Math" ∈ lg_tbl ∧ Cond.code Lib.Math.max.name Lib.Math.max.code 2 (some .int) ∈ lg_tbl) (hsm : (st.map fun v => v.category).sum ≤ 8) (k : zW l Gr zc K M (d + 1) (pc + 3) L (.int (ip_max x y) :: st) S Q) : zW l Gr zc K M (d + 1) pc L (.int y :: .int x :: st) S Q :=
  z_step (fun _ h => ip_maxx (G := (lg_tbl, vwCl, Gr)) rfl hd hw hsm h) k
theorem z_min {idx : Nat} {x y : Int32} (hd : decode M.2.1 pc = .ok (.invokestatic idx, 3))
    (hw : Cond.methodLink M.1.cls idx Lib.Math.min.name ∈ lg_tbl ∧ Cond.static Lib.Math.min.name ∈ lg_tbl ∧ Cond.initialized "java/lang/Math" ∈ lg_tbl ∧ Cond.code Lib.Math.min.name Lib.Math.min.code 2 (some .int) ∈ lg_tbl) (hsm : (st.map fun v => v.category).sum ≤ 8) (k : zW l Gr zc K M (d + 1) (pc + 3) L (.int (ip_min x y) :: st) S Q) : zW l Gr zc K M (d + 1) pc L (.int y :: .int x :: st) S Q :=
  z_step (fun _ h => ip_mixn (G := (lg_tbl, vwCl, Gr)) rfl hd hw hsm h) k
theorem z_acpy {idx a0 a1 n0 n1 : Nat} {ty : FieldType} {sp dp n : Int32} (hd : decode M.2.1 pc = .ok (.invokestatic idx, 3)) (hd1 : 1 ≤ d)
    (hw : Cond.methodLink M.1.cls idx arraycopyName ∈ lg_tbl ∧ Cond.native arraycopyName ∈ lg_tbl ∧ Cond.static arraycopyName ∈ lg_tbl ∧ Cond.initialized "java/lang/System" ∈ lg_tbl)
    (hty : (ip_ty (lg_tbl, vwCl, Gr))[ip_tyN ty]? = some (ip_A (lg_tbl, vwCl, Gr) ty, ty)) (hprim : refKind ty = false) (hc0 : a0 < K) (hc1 : a1 < K) (hz0 : zc (S.1 a0) (S.2 a0) a0 = .inl (ty, n0, .inl (S.1 a0))) (hz1 : ∀ I, zc I (S.2 a1) a1 = .inl (ty, n1, .inl I))
    (g1 : ¬ sp < 0) (g2 : ¬ dp < 0) (g3 : ¬ n < 0) (g4 : sp.toNatClampNeg + n.toNatClampNeg ≤ n0) (g5 : dp.toNatClampNeg + n.toNatClampNeg ≤ n1) (hfit : ∀ i, i < n.toNatClampNeg → fits ty (.int (S.1 a0 (sp.toNatClampNeg + i))) = true) (hsm : (st.map fun v => v.category).sum ≤ 8)
    (k : zW l Gr zc K M d (pc + 3) L st (zI S a1 (va_cpy (S.1 a0) (S.1 a1) sp.toNatClampNeg dp.toNatClampNeg n.toNatClampNeg)) Q) : zW l Gr zc K M d pc L (.int n :: .int dp :: .ref (a1 + 32) :: .int sp :: .ref (a0 + 32) :: st) S Q :=
  z_step (fun _ h => ip_acpy (G := (lg_tbl, vwCl, Gr)) hd hd1 hw hty hprim (by rw [z_h hc0, hz0]) (by rw [z_h hc1, hz1]) g1 g2 g3 g4 g5 hfit hsm (by rw [← hz1, z_hsI hc1]; exact h)) k
end ZB
section ZDIV2
variable {l : Launch} {Gr : zG} {zc : zC} {K : Nat} {M : ip_M} {d pc : Nat} {L : zL} {st : List Value} {S : zS} {Q : Option Value → zS → Prop}
theorem z_idiv {x y : Int32} (hd : decode M.2.1 pc = .ok (.idiv, 1)) (hne : ¬ y = 0) (k : zW l Gr zc K M d (pc + 1) L (.int (x / y) :: st) S Q) : zW l Gr zc K M d pc L (.int y :: .int x :: st) S Q := z_step (fun _ h => ip_idiv hd hne h) k
theorem z_irem {x y : Int32} (hd : decode M.2.1 pc = .ok (.irem, 1)) (hne : ¬ y = 0) (k : zW l Gr zc K M d (pc + 1) L (.int (x - x / y * y) :: st) S Q) : zW l Gr zc K M d pc L (.int y :: .int x :: st) S Q := z_step (fun _ h => ip_irem hd hne h) k
theorem z_ldiv {x y : Int64} (hd : decode M.2.1 pc = .ok (.ldiv, 1)) (hne : ¬ y = 0) (k : zW l Gr zc K M d (pc + 1) L (.long (x / y) :: st) S Q) : zW l Gr zc K M d pc L (.long y :: .long x :: st) S Q := z_step (fun _ h => ip_ldiv hd hne h) k
theorem z_lrem {x y : Int64} (hd : decode M.2.1 pc = .ok (.lrem, 1)) (hne : ¬ y = 0) (k : zW l Gr zc K M d (pc + 1) L (.long (x - x / y * y) :: st) S Q) : zW l Gr zc K M d pc L (.long y :: .long x :: st) S Q := z_step (fun _ h => ip_lrem hd hne h) k
end ZDIV2
theorem zi_c {S : zS} {c k c' k' : Nat} {v : Int32} (h : c' ≠ c) : (zi S c k v).1 c' k' = S.1 c' k' := by
  show (if c' = c then _ else S.1 c') k' = _
  rw [if_neg h]
theorem zi_k {S : zS} {c k k' : Nat} {v : Int32} (h : k' ≠ k) : (zi S c k v).1 c k' = S.1 c k' := by
  show (if c = c then upd (S.1 c) k v else S.1 c) k' = _
  rw [if_pos rfl]
  show (if k' = k then v else S.1 c k') = _
  rw [if_neg h]
theorem zi_v {S : zS} {c k : Nat} {v : Int32} : (zi S c k v).1 c k = v := by
  show (if c = c then upd (S.1 c) k v else S.1 c) k = _
  rw [if_pos rfl]
  show (if k = k then v else S.1 c k) = _
  rw [if_pos rfl]
theorem zi_2 {S : zS} {c k c' k' : Nat} {v : Int32} : (zi S c k v).2 c' k' = S.2 c' k' := rfl
theorem zj_c {S : zS} {c k c' k' : Nat} {v : Int64} (h : c' ≠ c) : (zj S c k v).2 c' k' = S.2 c' k' := by
  show (if c' = c then _ else S.2 c') k' = _
  rw [if_neg h]
theorem zj_k {S : zS} {c k k' : Nat} {v : Int64} (h : k' ≠ k) : (zj S c k v).2 c k' = S.2 c k' := by
  show (if c = c then vp_updL (S.2 c) k v else S.2 c) k' = _
  rw [if_pos rfl]
  show (if k' = k then v else S.2 c k') = _
  rw [if_neg h]
theorem zj_v {S : zS} {c k : Nat} {v : Int64} : (zj S c k v).2 c k = v := by
  show (if c = c then vp_updL (S.2 c) k v else S.2 c) k = _
  rw [if_pos rfl]
  show (if k = k then v else S.2 c k) = _
  rw [if_pos rfl]
theorem zj_1 {S : zS} {c k c' k' : Nat} {v : Int64} : (zj S c k v).1 c' k' = S.1 c' k' := rfl
theorem zI_c {S : zS} {c c' k' : Nat} {f : Nat → Int32} (h : c' ≠ c) : (zI S c f).1 c' k' = S.1 c' k' := by
  show (if c' = c then _ else S.1 c') k' = _
  rw [if_neg h]
theorem zI_2 {S : zS} {c c' k' : Nat} {f : Nat → Int32} : (zI S c f).2 c' k' = S.2 c' k' := rfl
section ZG
variable {l : Launch} {Gr : zG} {zc : zC} {K : Nat} {M : ip_M} {d pc : Nat} {L : zL} {st : List Value} {S : zS} {Q : Option Value → zS → Prop}
theorem z_getI {idx ci k c : Nat} {fs : List Value} {ty : FieldType} {fin : Bool} {x v : Int32} (hd : decode M.2.1 pc = .ok (.getfield idx, 3)) (hF : ip_F lg_tbl vwCl M.1.cls idx ci k ty fin) (hc : c < K) (hz : zc (S.1 c) (S.2 c) c = .inr (ci, fs)) (hv : fs[k]? = some (.int x)) (hx : x = v)
    (kk : zW l Gr zc K M d (pc + 3) L (.int v :: st) S Q) : zW l Gr zc K M d pc L (.ref (c + 32) :: st) S Q := by
  subst hx
  exact z_step (fun _ h => ip_getf (G := (lg_tbl, vwCl, Gr)) hd hF (by rw [z_h hc, hz]) hv h) kk
theorem z_getJ {idx ci k c : Nat} {fs : List Value} {ty : FieldType} {fin : Bool} {x v : Int64} (hd : decode M.2.1 pc = .ok (.getfield idx, 3)) (hF : ip_F lg_tbl vwCl M.1.cls idx ci k ty fin) (hc : c < K) (hz : zc (S.1 c) (S.2 c) c = .inr (ci, fs)) (hv : fs[k]? = some (.long x)) (hx : x = v)
    (kk : zW l Gr zc K M d (pc + 3) L (.long v :: st) S Q) : zW l Gr zc K M d pc L (.ref (c + 32) :: st) S Q := by
  subst hx
  exact z_step (fun _ h => ip_getf (G := (lg_tbl, vwCl, Gr)) hd hF (by rw [z_h hc, hz]) hv h) kk
theorem z_topI {x v : Int32} (hx : x = v) (kk : zW l Gr zc K M d pc L (.int v :: st) S Q) : zW l Gr zc K M d pc L (.int x :: st) S Q := by
  subst hx
  exact kk
theorem z_topJ {x v : Int64} (hx : x = v) (kk : zW l Gr zc K M d pc L (.long v :: st) S Q) : zW l Gr zc K M d pc L (.long x :: st) S Q := by
  subst hx
  exact kk
end ZG
