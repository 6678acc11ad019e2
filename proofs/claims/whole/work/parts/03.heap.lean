section IPB
variable {l : Launch} {G : ip_G} {M : ip_M} {d pc : Nat} {L : List (Option Value)} {st : List Value} {h : ip_H} {r : Option Value × ip_H}
theorem ip_if_eq_t {x : Int32} {off : Int} {tgt : Nat} (hd : decode M.2.1 pc = .ok (.ifCond .eq off, 3)) (ht : (pc : Int) + off = (tgt : Int)) (hc : x = 0) (k : ip_Rn l G M d tgt L st h r) : ip_Rn l G M d pc L (.int x :: st) h r :=
  ip_pure (fun _ _ _ _ _ _ _ _ _ _ _ _ _ _ _ C _ _ hL kk => lv_if_eq C.1 C.2.1 hd ht (fun _ => kk _ hL) (fun q => (q hc).elim)) k
theorem ip_if_eq_f {x : Int32} {off : Int} {tgt : Nat} (hd : decode M.2.1 pc = .ok (.ifCond .eq off, 3)) (ht : (pc : Int) + off = (tgt : Int)) (hc : ¬ x = 0) (k : ip_Rn l G M d (pc + 3) L st h r) : ip_Rn l G M d pc L (.int x :: st) h r :=
  ip_pure (fun _ _ _ _ _ _ _ _ _ _ _ _ _ _ _ C _ _ hL kk => lv_if_eq C.1 C.2.1 hd ht (fun q => (hc q).elim) (fun _ => kk _ hL)) k
theorem ip_icmp_eq_t {x y : Int32} {off : Int} {tgt : Nat} (hd : decode M.2.1 pc = .ok (.if_icmp .eq off, 3)) (ht : (pc : Int) + off = (tgt : Int)) (hc : x = y) (k : ip_Rn l G M d tgt L st h r) : ip_Rn l G M d pc L (.int y :: .int x :: st) h r :=
  ip_pure (fun _ _ _ _ _ _ _ _ _ _ _ _ _ _ _ C _ _ hL kk => lv_icmp_eq C.1 C.2.1 hd ht (fun _ => kk _ hL) (fun q => (q hc).elim)) k
theorem ip_icmp_eq_f {x y : Int32} {off : Int} {tgt : Nat} (hd : decode M.2.1 pc = .ok (.if_icmp .eq off, 3)) (ht : (pc : Int) + off = (tgt : Int)) (hc : ¬ x = y) (k : ip_Rn l G M d (pc + 3) L st h r) : ip_Rn l G M d pc L (.int y :: .int x :: st) h r :=
  ip_pure (fun _ _ _ _ _ _ _ _ _ _ _ _ _ _ _ C _ _ hL kk => lv_icmp_eq C.1 C.2.1 hd ht (fun q => (hc q).elim) (fun _ => kk _ hL)) k
theorem ip_if_ne_t {x : Int32} {off : Int} {tgt : Nat} (hd : decode M.2.1 pc = .ok (.ifCond .ne off, 3)) (ht : (pc : Int) + off = (tgt : Int)) (hc : ¬ x = 0) (k : ip_Rn l G M d tgt L st h r) : ip_Rn l G M d pc L (.int x :: st) h r :=
  ip_pure (fun _ _ _ _ _ _ _ _ _ _ _ _ _ _ _ C _ _ hL kk => lv_if_ne C.1 C.2.1 hd ht (fun _ => kk _ hL) (fun q => (hc q).elim)) k
theorem ip_if_ne_f {x : Int32} {off : Int} {tgt : Nat} (hd : decode M.2.1 pc = .ok (.ifCond .ne off, 3)) (ht : (pc : Int) + off = (tgt : Int)) (hc : x = 0) (k : ip_Rn l G M d (pc + 3) L st h r) : ip_Rn l G M d pc L (.int x :: st) h r :=
  ip_pure (fun _ _ _ _ _ _ _ _ _ _ _ _ _ _ _ C _ _ hL kk => lv_if_ne C.1 C.2.1 hd ht (fun q => (q hc).elim) (fun _ => kk _ hL)) k
theorem ip_icmp_ne_t {x y : Int32} {off : Int} {tgt : Nat} (hd : decode M.2.1 pc = .ok (.if_icmp .ne off, 3)) (ht : (pc : Int) + off = (tgt : Int)) (hc : ¬ x = y) (k : ip_Rn l G M d tgt L st h r) : ip_Rn l G M d pc L (.int y :: .int x :: st) h r :=
  ip_pure (fun _ _ _ _ _ _ _ _ _ _ _ _ _ _ _ C _ _ hL kk => lv_icmp_ne C.1 C.2.1 hd ht (fun _ => kk _ hL) (fun q => (hc q).elim)) k
theorem ip_icmp_ne_f {x y : Int32} {off : Int} {tgt : Nat} (hd : decode M.2.1 pc = .ok (.if_icmp .ne off, 3)) (ht : (pc : Int) + off = (tgt : Int)) (hc : x = y) (k : ip_Rn l G M d (pc + 3) L st h r) : ip_Rn l G M d pc L (.int y :: .int x :: st) h r :=
  ip_pure (fun _ _ _ _ _ _ _ _ _ _ _ _ _ _ _ C _ _ hL kk => lv_icmp_ne C.1 C.2.1 hd ht (fun q => (q hc).elim) (fun _ => kk _ hL)) k
theorem ip_if_lt_t {x : Int32} {off : Int} {tgt : Nat} (hd : decode M.2.1 pc = .ok (.ifCond .lt off, 3)) (ht : (pc : Int) + off = (tgt : Int)) (hc : x < 0) (k : ip_Rn l G M d tgt L st h r) : ip_Rn l G M d pc L (.int x :: st) h r :=
  ip_pure (fun _ _ _ _ _ _ _ _ _ _ _ _ _ _ _ C _ _ hL kk => lv_if_lt C.1 C.2.1 hd ht (fun _ => kk _ hL) (fun q => (q hc).elim)) k
theorem ip_if_lt_f {x : Int32} {off : Int} {tgt : Nat} (hd : decode M.2.1 pc = .ok (.ifCond .lt off, 3)) (ht : (pc : Int) + off = (tgt : Int)) (hc : ¬ x < 0) (k : ip_Rn l G M d (pc + 3) L st h r) : ip_Rn l G M d pc L (.int x :: st) h r :=
  ip_pure (fun _ _ _ _ _ _ _ _ _ _ _ _ _ _ _ C _ _ hL kk => lv_if_lt C.1 C.2.1 hd ht (fun q => (hc q).elim) (fun _ => kk _ hL)) k
theorem ip_icmp_lt_t {x y : Int32} {off : Int} {tgt : Nat} (hd : decode M.2.1 pc = .ok (.if_icmp .lt off, 3)) (ht : (pc : Int) + off = (tgt : Int)) (hc : x < y) (k : ip_Rn l G M d tgt L st h r) : ip_Rn l G M d pc L (.int y :: .int x :: st) h r :=
  ip_pure (fun _ _ _ _ _ _ _ _ _ _ _ _ _ _ _ C _ _ hL kk => lv_icmp_lt C.1 C.2.1 hd ht (fun _ => kk _ hL) (fun q => (q hc).elim)) k
theorem ip_icmp_lt_f {x y : Int32} {off : Int} {tgt : Nat} (hd : decode M.2.1 pc = .ok (.if_icmp .lt off, 3)) (ht : (pc : Int) + off = (tgt : Int)) (hc : ¬ x < y) (k : ip_Rn l G M d (pc + 3) L st h r) : ip_Rn l G M d pc L (.int y :: .int x :: st) h r :=
  ip_pure (fun _ _ _ _ _ _ _ _ _ _ _ _ _ _ _ C _ _ hL kk => lv_icmp_lt C.1 C.2.1 hd ht (fun q => (hc q).elim) (fun _ => kk _ hL)) k
theorem ip_if_ge_t {x : Int32} {off : Int} {tgt : Nat} (hd : decode M.2.1 pc = .ok (.ifCond .ge off, 3)) (ht : (pc : Int) + off = (tgt : Int)) (hc : 0 ≤ x) (k : ip_Rn l G M d tgt L st h r) : ip_Rn l G M d pc L (.int x :: st) h r :=
  ip_pure (fun _ _ _ _ _ _ _ _ _ _ _ _ _ _ _ C _ _ hL kk => lv_if_ge C.1 C.2.1 hd ht (fun _ => kk _ hL) (fun q => (q hc).elim)) k
theorem ip_if_ge_f {x : Int32} {off : Int} {tgt : Nat} (hd : decode M.2.1 pc = .ok (.ifCond .ge off, 3)) (ht : (pc : Int) + off = (tgt : Int)) (hc : ¬ 0 ≤ x) (k : ip_Rn l G M d (pc + 3) L st h r) : ip_Rn l G M d pc L (.int x :: st) h r :=
  ip_pure (fun _ _ _ _ _ _ _ _ _ _ _ _ _ _ _ C _ _ hL kk => lv_if_ge C.1 C.2.1 hd ht (fun q => (hc q).elim) (fun _ => kk _ hL)) k
theorem ip_icmp_ge_t {x y : Int32} {off : Int} {tgt : Nat} (hd : decode M.2.1 pc = .ok (.if_icmp .ge off, 3)) (ht : (pc : Int) + off = (tgt : Int)) (hc : y ≤ x) (k : ip_Rn l G M d tgt L st h r) : ip_Rn l G M d pc L (.int y :: .int x :: st) h r :=
  ip_pure (fun _ _ _ _ _ _ _ _ _ _ _ _ _ _ _ C _ _ hL kk => lv_icmp_ge C.1 C.2.1 hd ht (fun _ => kk _ hL) (fun q => (q hc).elim)) k
theorem ip_icmp_ge_f {x y : Int32} {off : Int} {tgt : Nat} (hd : decode M.2.1 pc = .ok (.if_icmp .ge off, 3)) (ht : (pc : Int) + off = (tgt : Int)) (hc : ¬ y ≤ x) (k : ip_Rn l G M d (pc + 3) L st h r) : ip_Rn l G M d pc L (.int y :: .int x :: st) h r :=
  ip_pure (fun _ _ _ _ _ _ _ _ _ _ _ _ _ _ _ C _ _ hL kk => lv_icmp_ge C.1 C.2.1 hd ht (fun q => (hc q).elim) (fun _ => kk _ hL)) k
theorem ip_if_gt_t {x : Int32} {off : Int} {tgt : Nat} (hd : decode M.2.1 pc = .ok (.ifCond .gt off, 3)) (ht : (pc : Int) + off = (tgt : Int)) (hc : 0 < x) (k : ip_Rn l G M d tgt L st h r) : ip_Rn l G M d pc L (.int x :: st) h r :=
  ip_pure (fun _ _ _ _ _ _ _ _ _ _ _ _ _ _ _ C _ _ hL kk => lv_if_gt C.1 C.2.1 hd ht (fun _ => kk _ hL) (fun q => (q hc).elim)) k
theorem ip_if_gt_f {x : Int32} {off : Int} {tgt : Nat} (hd : decode M.2.1 pc = .ok (.ifCond .gt off, 3)) (ht : (pc : Int) + off = (tgt : Int)) (hc : ¬ 0 < x) (k : ip_Rn l G M d (pc + 3) L st h r) : ip_Rn l G M d pc L (.int x :: st) h r :=
  ip_pure (fun _ _ _ _ _ _ _ _ _ _ _ _ _ _ _ C _ _ hL kk => lv_if_gt C.1 C.2.1 hd ht (fun q => (hc q).elim) (fun _ => kk _ hL)) k
theorem ip_icmp_gt_t {x y : Int32} {off : Int} {tgt : Nat} (hd : decode M.2.1 pc = .ok (.if_icmp .gt off, 3)) (ht : (pc : Int) + off = (tgt : Int)) (hc : y < x) (k : ip_Rn l G M d tgt L st h r) : ip_Rn l G M d pc L (.int y :: .int x :: st) h r :=
  ip_pure (fun _ _ _ _ _ _ _ _ _ _ _ _ _ _ _ C _ _ hL kk => lv_icmp_gt C.1 C.2.1 hd ht (fun _ => kk _ hL) (fun q => (q hc).elim)) k
theorem ip_icmp_gt_f {x y : Int32} {off : Int} {tgt : Nat} (hd : decode M.2.1 pc = .ok (.if_icmp .gt off, 3)) (ht : (pc : Int) + off = (tgt : Int)) (hc : ¬ y < x) (k : ip_Rn l G M d (pc + 3) L st h r) : ip_Rn l G M d pc L (.int y :: .int x :: st) h r :=
  ip_pure (fun _ _ _ _ _ _ _ _ _ _ _ _ _ _ _ C _ _ hL kk => lv_icmp_gt C.1 C.2.1 hd ht (fun q => (hc q).elim) (fun _ => kk _ hL)) k
theorem ip_if_le_t {x : Int32} {off : Int} {tgt : Nat} (hd : decode M.2.1 pc = .ok (.ifCond .le off, 3)) (ht : (pc : Int) + off = (tgt : Int)) (hc : x ≤ 0) (k : ip_Rn l G M d tgt L st h r) : ip_Rn l G M d pc L (.int x :: st) h r :=
  ip_pure (fun _ _ _ _ _ _ _ _ _ _ _ _ _ _ _ C _ _ hL kk => lv_if_le C.1 C.2.1 hd ht (fun _ => kk _ hL) (fun q => (q hc).elim)) k
theorem ip_if_le_f {x : Int32} {off : Int} {tgt : Nat} (hd : decode M.2.1 pc = .ok (.ifCond .le off, 3)) (ht : (pc : Int) + off = (tgt : Int)) (hc : ¬ x ≤ 0) (k : ip_Rn l G M d (pc + 3) L st h r) : ip_Rn l G M d pc L (.int x :: st) h r :=
  ip_pure (fun _ _ _ _ _ _ _ _ _ _ _ _ _ _ _ C _ _ hL kk => lv_if_le C.1 C.2.1 hd ht (fun q => (hc q).elim) (fun _ => kk _ hL)) k
theorem ip_icmp_le_t {x y : Int32} {off : Int} {tgt : Nat} (hd : decode M.2.1 pc = .ok (.if_icmp .le off, 3)) (ht : (pc : Int) + off = (tgt : Int)) (hc : x ≤ y) (k : ip_Rn l G M d tgt L st h r) : ip_Rn l G M d pc L (.int y :: .int x :: st) h r :=
  ip_pure (fun _ _ _ _ _ _ _ _ _ _ _ _ _ _ _ C _ _ hL kk => lv_icmp_le C.1 C.2.1 hd ht (fun _ => kk _ hL) (fun q => (q hc).elim)) k
theorem ip_icmp_le_f {x y : Int32} {off : Int} {tgt : Nat} (hd : decode M.2.1 pc = .ok (.if_icmp .le off, 3)) (ht : (pc : Int) + off = (tgt : Int)) (hc : ¬ x ≤ y) (k : ip_Rn l G M d (pc + 3) L st h r) : ip_Rn l G M d pc L (.int y :: .int x :: st) h r :=
  ip_pure (fun _ _ _ _ _ _ _ _ _ _ _ _ _ _ _ C _ _ hL kk => lv_icmp_le C.1 C.2.1 hd ht (fun q => (hc q).elim) (fun _ => kk _ hL)) k
theorem ip_tabO {dflt lo hi : Int} {offs : Array Int} {len : Nat} {x : Int32} {tgt : Nat} (hd : decode M.2.1 pc = .ok (.tableswitch dflt lo hi offs, len)) (hx : x.toInt < lo ∨ hi < x.toInt) (ht : (pc : Int) + dflt = (tgt : Int)) (k : ip_Rn l G M d tgt L st h r) : ip_Rn l G M d pc L (.int x :: st) h r :=
  ip_pure (fun _ _ _ _ _ _ _ _ _ _ _ _ _ _ _ C _ _ hL kk => lv_tableOut C.1 C.2.1 hd hx ht (kk _ hL)) k
theorem ip_tabI {dflt lo hi : Int} {offs : Array Int} {len : Nat} {x : Int32} {off : Int} {tgt : Nat} (hd : decode M.2.1 pc = .ok (.tableswitch dflt lo hi offs, len)) (h1 : ¬ x.toInt < lo) (h2 : ¬ hi < x.toInt) (ho : offs[(x.toInt - lo).toNat]? = some off) (ht : (pc : Int) + off = (tgt : Int)) (k : ip_Rn l G M d tgt L st h r) : ip_Rn l G M d pc L (.int x :: st) h r :=
  ip_pure (fun _ _ _ _ _ _ _ _ _ _ _ _ _ _ _ C _ _ hL kk => lv_tableIn C.1 C.2.1 hd h1 h2 ho ht (kk _ hL)) k
theorem ip_lkp {dflt : Int} {ps : Array (Int × Int)} {len : Nat} {x : Int32} {off : Int} {tgt : Nat} (hd : decode M.2.1 pc = .ok (.lookupswitch dflt ps, len)) (hp : (ps.toList.zip (ps.toList.drop 1)).all (fun (a, next) => a.1 < next.1) = true) (ho : Op.lookupswitch.offset ps.toList dflt x.toInt = off) (ht : (pc : Int) + off = (tgt : Int)) (k : ip_Rn l G M d tgt L st h r) : ip_Rn l G M d pc L (.int x :: st) h r :=
  ip_pure (fun _ _ _ _ _ _ _ _ _ _ _ _ _ _ _ C _ _ hL kk => lv_lookup C.1 C.2.1 hd hp ho ht (kk _ hL)) k
end IPB
def ip_F (T : List Cond) (cl : List vw_C) (own : String) (idx ci k : Nat) (ty : FieldType) (fin : Bool) : Prop :=
  ∃ (C : String) (F : u_T) (N : Nat), cl[ci]? = some (C, F, N) ∧ (∀ w ∈ u_ws C F N, w ∈ T) ∧ k < N ∧ (F k).1 = C ∧ parseFieldDescriptor (F k).2.2.1 = some ty ∧ (F k).2.2.2 = fin ∧ (∃ ty0 : Nat → FieldType, ∀ j, j < N → parseFieldDescriptor (F j).2.2.1 = some (ty0 j)) ∧ (∀ a, a < N → ∀ b, b < N → a ≠ b → (F a).2.1 ≠ (F b).2.1) ∧
    (Cond.fieldLink own idx C (F k).2.1 (F k).2.2.1 ∈ T ∨ ∃ host, Cond.fieldLinkNest own idx C (F k).2.1 (F k).2.2.1 host ∈ T)
def ip_Fp (T : List Cond) (cl : List vw_C) (own : String) (idx ci k : Nat) (ty : FieldType) : Prop :=
  ∃ (F : u_T) (N : Nat), cl[ci]? = some (own, F, N) ∧ (∀ w ∈ u_ws own F N, w ∈ T) ∧ k < N ∧ (F k).1 = own ∧ parseFieldDescriptor (F k).2.2.1 = some ty ∧ (F k).2.2.2 = true ∧ (∃ ty0 : Nat → FieldType, ∀ j, j < N → parseFieldDescriptor (F j).2.2.1 = some (ty0 j)) ∧ (∀ a, a < N → ∀ b, b < N → a ≠ b → (F a).2.1 ≠ (F b).2.1) ∧
    Cond.fieldLink own idx own (F k).2.1 (F k).2.2.1 ∈ T
def ip_N (T : List Cond) (cl : List vw_C) (own : String) (idx ci : Nat) (fs : List Value) : Prop :=
  ∃ (C : String) (F : u_T) (N : Nat), cl[ci]? = some (C, F, N) ∧ (∀ w ∈ u_ws C F N, w ∈ T) ∧ (∃ ty0 : Nat → FieldType, (∀ j, j < N → parseFieldDescriptor (F j).2.2.1 = some (ty0 j)) ∧ fs = (List.range N).map (fun j => defaultValue (ty0 j))) ∧ Cond.classLink own idx C ∈ T ∧ Cond.instantiable C N ∈ T ∧ Cond.initialized C ∈ T
theorem ip_fits {G : ip_G} {ty : FieldType} {v : Value} (hf : fits ty v = true) : narrow ty (ip_v G v) = ip_v G v ∧ fits ty (ip_v G v) = true := by
  have h2 : fits ty (ip_v G v) = true := by
    cases v <;> first | exact hf | (cases ty <;> first | exact hf | rfl)
  refine ⟨?_, h2⟩
  cases v with
  | int x =>
    cases ty with
    | boolean =>
      have h3 : (x == 0 || x == 1) = true := hf
      rcases Bool.or_eq_true _ _ |>.mp h3 with q | q
      · rw [eq_of_beq q]; rfl
      · rw [eq_of_beq q]; rfl
    | byte =>
      have h3 : (decide (-128 ≤ x) && decide (x ≤ 127)) = true := hf
      simp only [Bool.and_eq_true, decide_eq_true_eq] at h3
      show Value.int x.toInt8.toInt32 = .int x
      congr 1
      have q1 : (-128 : Int) ≤ x.toInt := Int32.le_iff_toInt_le.mp h3.1
      have q2 : x.toInt ≤ 127 := Int32.le_iff_toInt_le.mp h3.2
      apply Int32.toInt_inj.mp
      rw [Int8.toInt_toInt32, Int32.toInt_toInt8]
      exact Int.bmod_eq_of_le (by omega) (by omega)
    | char =>
      have h3 : (decide (0 ≤ x) && decide (x ≤ 65535)) = true := hf
      simp only [Bool.and_eq_true, decide_eq_true_eq] at h3
      obtain ⟨n, hn, rfl⟩ := nI_of2 (M := 65535) (n := 65535) rfl (fun q => by
        have q1 : (0 : Int) ≤ x.toInt := Int32.le_iff_toInt_le.mp h3.1
        have q2 : x.toInt < 0 := Int32.lt_iff_toInt_lt.mp q
        omega) h3.2
      exact (pk_charN (by omega)).1
    | short =>
      have h3 : (decide (-32768 ≤ x) && decide (x ≤ 32767)) = true := hf
      simp only [Bool.and_eq_true, decide_eq_true_eq] at h3
      show Value.int x.toInt16.toInt32 = .int x
      congr 1
      have q1 : (-32768 : Int) ≤ x.toInt := Int32.le_iff_toInt_le.mp h3.1
      have q2 : x.toInt ≤ 32767 := Int32.le_iff_toInt_le.mp h3.2
      apply Int32.toInt_inj.mp
      rw [Int16.toInt_toInt32, Int32.toInt_toInt16]
      exact Int.bmod_eq_of_le (by omega) (by omega)
    | _ => rfl
  | _ => cases ty <;> rfl
section IPH
variable {l : Launch} {G : ip_G} {M : ip_M} {d pc : Nat} {L : List (Option Value)} {st : List Value} {h : ip_H} {r : Option Value × ip_H}
theorem ip_getf {idx ci k n : Nat} {fs : List Value} {ty : FieldType} {fin : Bool} {v : Value} (hd : decode M.2.1 pc = .ok (.getfield idx, 3)) (hF : ip_F (ip_T G) (ip_C G) M.1.cls idx ci k ty fin) (hh : ip_h h n = some (.inr (ci, fs))) (hv : fs[k]? = some v)
    (kk : ip_Rn l G M d (pc + 3) L (v :: st) h r) : ip_Rn l G M d pc L (.ref n :: st) h r := by
  obtain ⟨C, F, N, hc, hw, hk, hC, -, -, -, -, hl⟩ := hF
  refine ⟨kk.1, fun p e R s m args below meth c Q H locs cells slots ls Cx hdp hlo hce hsl hL hSt hS kt => ?_⟩
  have hnext := kk.2 p e R s m args below meth c Q H locs cells slots ls Cx hdp hlo hce hsl hL hSt hS kt
  have hws := ip_ws_at G hh
  have hv' : (fs.map (ip_v G))[k]? = some (ip_v G v) := by rw [List.getElem?_map, hv]; rfl
  obtain ⟨hx, hb, -, -, hown, hts, -, -, -, hK, -⟩ := Cx
  rcases hl with hl | ⟨host, hl⟩
  · exact va_get hx hb hts hw hown hK hSt.2 (n - 32) hws hc k hk (hts _ hl) (fun x q => by rw [hC] at q; exact q) hv' hd hnext
  · exact va_getN hx hb hts hw hown hK hSt.2 (n - 32) hws hc k hk (hts _ hl) (fun x q => by rw [hC] at q; exact q) hv' hd hnext
theorem ip_store {s : State} {n k : Nat} {e0 e : ip_E} {H H1 : Heap} {locs : List Loc} (hSt : ip_St G h H) (hS : ip_S G s H locs) (hh : ip_h h n = some e0) (hat : va_at (ip_D G) (ip_C G) (ip_a G n, ip_cv G e) H1) (hz : H1.size = H.size) (oq : ∀ q : Nat, q ≠ ip_a G n → H1[q]? = H[q]?) :
    ip_St G (ip_hs h n e) H1 ∧ ip_S G s H1 (locs ++ [⟨ip_a G n, k⟩]) := by
  have hD := ip_ws_D G h (ip_B G)
  have hws := ip_ws_at G hh
  have ha : ip_a G n = ip_B G + (n - 32) := by
    unfold ip_h at hh
    split at hh
    · cases hh
    · next hn => unfold ip_a; rw [if_neg hn]
  have h1 := hSt.2.set hD hws hat oq
  refine ⟨⟨by rw [hz, hSt.1, ip_hs_len], ?_⟩, hS.put hz oq (by rw [ha]; exact Nat.le_add_right _ _)⟩
  unfold ip_hs
  rw [ip_ws_set, ← ha]
  exact h1
theorem ip_putf {idx ci k n : Nat} {fs : List Value} {ty : FieldType} {v : Value} (hd : decode M.2.1 pc = .ok (.putfield idx, 3)) (hF : ip_F (ip_T G) (ip_C G) M.1.cls idx ci k ty false) (hh : ip_h h n = some (.inr (ci, fs))) (hfl : k < fs.length) (hfit : fits ty v = true)
    (kk : ip_Rn l G M d (pc + 3) L st (ip_hs h n (.inr (ci, fs.set k v))) r) : ip_Rn l G M d pc L (v :: .ref n :: st) h r := by
  obtain ⟨C, F, N, hc, hw, hk, hC, hpar, hfin, ⟨ty0, hty⟩, hnm, hl⟩ := hF
  have hz : ip_z (.inr (ci, fs.set k v)) = ip_z (.inr (ci, fs)) := by show (fs.set k v).length = fs.length; exact List.length_set
  have et := ip_hs_t hh hz
  have k1 := kk.1
  rw [ip_hs_len, et] at k1
  refine ⟨k1, fun p e R s m args below meth c Q H locs cells slots ls Cx hdp hlo hce hsl hL hSt hS kt => ?_⟩
  have hws := ip_ws_at G hh
  have Cx0 := Cx
  obtain ⟨hx, hb, -, -, hown, hts, -, -, -, hK, -⟩ := Cx
  obtain ⟨hn2, hf2⟩ := ip_fits (G := G) hfit
  have hap := va_apart (own := M.1.cls) hts hw ty0 hty hnm hK hc
  obtain ⟨r', h1, cell, q1, q2, q3, q4⟩ := hSt.2 (n - 32) _ hws
  have hr : r' = (C, F, N) := Option.some.inj (h1.symm.trans hc)
  subst hr
  obtain ⟨hS1, hfc, kC, hkC, hkind⟩ := hK.1 ci _ hc
  obtain ⟨cf, kf, fi, f, hi, hsl1⟩ := hS1 k hk
  have hlay := hts _ (hw _ (u_in_lay hk))
  unfold u_lay at hlay
  rw [if_neg (by rw [hfin]; decide)] at hlay
  have hst := (u_facts hfc hkC (u_lays hts hw hk) hi).1
  have h6 := u_store hfc hkC hkind hlay hi hpar hn2 hf2
  have hi2 : s.fieldFound? C (F k).2.1 (F k).2.2.1 = some (cf, kf, fi, f) := by rw [← hC]; exact hi
  have fin : ∀ (H' : Heap), H'[ip_a G n]? = some (cell.setSlot f.slot (ip_v G v)) → H'.size = H.size → (∀ q, q ≠ ip_a G n → H'[q]? = H[q]?) → W p l e R s m args below meth c H' (locs ++ [⟨ip_a G n, f.slot⟩]) cells slots Q (F0 m (pc + 3) ls (st.map (ip_v G))) := by
    intro H' e1 e2 e3
    rw [hsl1] at e1
    have hat : va_at (ip_D G) (ip_C G) (ip_a G n, ip_cv G (.inr (ci, fs.set k v))) H' := by
      refine ⟨_, hc, t_OB.to (V := updV (vp_V (fs.map (ip_v G))) k (ip_v G v)) ⟨_, e1, q2, q3, t_set q4 hap hk (ip_v G v)⟩ (fun j _ => ?_)⟩
      show _ = vp_V ((fs.set k v).map (ip_v G)) j
      rw [List.map_set]
      exact vp_updV_set (by rw [List.length_map]; exact hfl) (ip_v G v) j
    obtain ⟨a1, a2⟩ := ip_store (k := f.slot) hSt hS hh hat e2 e3
    exact kk.2 p e R s m args below meth c Q H' _ cells slots ls Cx0 hdp hlo (by rw [ip_hs_len]; exact hce) (by rw [et]; exact hsl) hL a1 a2 (fun pc' ls' H'' locs' w1 w2 w3 => by rw [ip_hs_len, et]; exact kt pc' ls' H'' locs' w1 w2 w3)
  rcases hl with hl | ⟨host, hl⟩
  · exact W.putK hx hb (f := f) ⟨hown, hts _ hl, ⟨_, _, _, hi2⟩, hst⟩ (by rw [q2]; exact h6) q1 q3 (by rw [hsl1]; exact k2_hasslot (q4 k hk)) rfl rfl hd fin
  · exact va_WputK hx hb (f := f) hown (hts _ hl) hi2 hst (by rw [q2]; exact h6) q1 q3 (by rw [hsl1]; exact k2_hasslot (q4 k hk)) rfl rfl hd fin
theorem ip_putF {idx ci k n : Nat} {fs : List Value} {ty : FieldType} {v : Value} (hd : decode M.2.1 pc = .ok (.putfield idx, 3)) (hF : ip_Fp (ip_T G) (ip_C G) M.1.cls idx ci k ty) (hname : M.1.name = "<init>") (hh : ip_h h n = some (.inr (ci, fs))) (hfl : k < fs.length) (hfit : fits ty v = true)
    (kk : ip_Rn l G M d (pc + 3) L st (ip_hs h n (.inr (ci, fs.set k v))) r) : ip_Rn l G M d pc L (v :: .ref n :: st) h r := by
  obtain ⟨F, N, hc, hw, hk, hC, hpar, hfin, ⟨ty0, hty⟩, hnm, hl⟩ := hF
  have hz : ip_z (.inr (ci, fs.set k v)) = ip_z (.inr (ci, fs)) := by show (fs.set k v).length = fs.length; exact List.length_set
  have et := ip_hs_t hh hz
  have k1 := kk.1
  rw [ip_hs_len, et] at k1
  refine ⟨k1, fun p e R s m args below meth c Q H locs cells slots ls Cx hdp hlo hce hsl hL hSt hS kt => ?_⟩
  have hws := ip_ws_at G hh
  have Cx0 := Cx
  obtain ⟨hx, hb, -, -, hown, hts, -, hin2, -, hK, -⟩ := Cx
  obtain ⟨hn2, hf2⟩ := ip_fits (G := G) hfit
  have hap := va_apart (own := M.1.cls) hts hw ty0 hty hnm hK hc
  obtain ⟨r', h1, cell, q1, q2, q3, q4⟩ := hSt.2 (n - 32) _ hws
  have hr : r' = (M.1.cls, F, N) := Option.some.inj (h1.symm.trans hc)
  subst hr
  obtain ⟨hS1, hfc, kC, hkC, hkind⟩ := hK.1 ci _ hc
  obtain ⟨cf, kf, fi, f, hi, hsl1⟩ := hS1 k hk
  have hlay := hts _ (hw _ (u_in_lay hk))
  unfold u_lay at hlay
  rw [if_pos hfin] at hlay
  have hst := (u_facts hfc hkC (u_lays hts hw hk) hi).1
  have hcf : m.cls = cf := by
    obtain ⟨_, _, c', _, _, _, -, -, hf', -, -, -, hown2, -⟩ := Cond.laysFinal_spec hlay
    have e1 : c' = cf := by have := hi.symm.trans hf'; simp at this; exact this.1.symm
    rw [hC] at hown2
    rw [← e1]; exact Option.some.inj (hown.symm.trans hown2)
  have h6 := u_fits hfc hkC hkind (Or.inr hlay) hi hpar hn2 hf2
  have hi2 : s.fieldFound? M.1.cls (F k).2.1 (F k).2.2.1 = some (cf, kf, fi, f) := by rw [← hC]; exact hi
  have fin : ∀ (H' : Heap), H'[ip_a G n]? = some (cell.setSlot f.slot (ip_v G v)) → H'.size = H.size → (∀ q, q ≠ ip_a G n → H'[q]? = H[q]?) → W p l e R s m args below meth c H' (locs ++ [⟨ip_a G n, f.slot⟩]) cells slots Q (F0 m (pc + 3) ls (st.map (ip_v G))) := by
    intro H' e1 e2 e3
    rw [hsl1] at e1
    have hat : va_at (ip_D G) (ip_C G) (ip_a G n, ip_cv G (.inr (ci, fs.set k v))) H' := by
      refine ⟨_, hc, t_OB.to (V := updV (vp_V (fs.map (ip_v G))) k (ip_v G v)) ⟨_, e1, q2, q3, t_set q4 hap hk (ip_v G v)⟩ (fun j _ => ?_)⟩
      show _ = vp_V ((fs.set k v).map (ip_v G)) j
      rw [List.map_set]
      exact vp_updV_set (by rw [List.length_map]; exact hfl) (ip_v G v) j
    obtain ⟨a1, a2⟩ := ip_store (k := f.slot) hSt hS hh hat e2 e3
    exact kk.2 p e R s m args below meth c Q H' _ cells slots ls Cx0 hdp hlo (by rw [ip_hs_len]; exact hce) (by rw [et]; exact hsl) hL a1 a2 (fun pc' ls' H'' locs' w1 w2 w3 => by rw [ip_hs_len, et]; exact kt pc' ls' H'' locs' w1 w2 w3)
  exact W.putFinK hx hb hown (hts _ hl) hi2 hst hcf (hin2 hname) (by rw [q2]; exact h6) q1 q3 (by rw [hsl1]; exact k2_hasslot (q4 k hk)) rfl rfl hd fin
end IPH
