/-- what a method's instructions are and link to: decode rows, fields, made classes, numbers -/
def ip_len (pc : Nat) (i : Instr) : Nat := match i with
  | .bipush _ | .ldc _ | .iload _ | .lload _ | .aload _ | .istore _ | .lstore _ | .astore _ | .newarray _ => 2
  | .sipush _ | .ldc_w _ | .ldc2_w _ | .iinc _ _ | .goto _ | .ifCond _ _ | .if_icmp _ _ | .getfield _ | .putfield _ | .new _ | .invokevirtual _ | .invokespecial _ | .invokestatic _ | .getstatic _ | .ifnull _ | .ifnonnull _ => 3
  | .tableswitch _ _ _ offs => (4 - pc % 4) + 12 + 4 * offs.size
  | .lookupswitch _ ps => (4 - pc % 4) + 8 + 8 * ps.size
  | _ => 1
abbrev ip_V : Type := List (Nat × Instr) × List (Nat × Nat × Nat × FieldType × Bool) × List (Nat × Nat × List Value) × List (Nat × Int32) × List (Nat × Int64)
def ip_okV (T : List Cond) (cl : List vw_C) (M : ip_M) (V : ip_V) : Prop :=
  (∀ q ∈ V.1, decode M.2.1 q.1 = .ok (q.2, ip_len q.1 q.2)) ∧ (∀ q ∈ V.2.1, ip_F T cl M.1.cls q.1 q.2.1 q.2.2.1 q.2.2.2.1 q.2.2.2.2 ∧ (q.2.2.2.2 = true → ip_Fp T cl M.1.cls q.1 q.2.1 q.2.2.1 q.2.2.2.1 ∨ M.1.name ≠ "<init>")) ∧ (∀ q ∈ V.2.2.1, ip_N T cl M.1.cls q.1 q.2.1 q.2.2) ∧ (∀ q ∈ V.2.2.2.1, Cond.constant M.1.cls q.1 q.2 ∈ T) ∧ (∀ q ∈ V.2.2.2.2, Cond.constantLong M.1.cls q.1 q.2 ∈ T) ∧ (Cond.arrayClass .int ∈ T ∧ Cond.arrayClass .byte ∈ T ∧ Cond.arrayClass .boolean ∈ T ∧ Cond.arrayClass .long ∈ T)
abbrev ip_K : Type := Nat × List (Option Value) × List Value × ip_H
def ip_lk {α : Type} : Nat → List (Nat × α) → Option α
  | _, [] => none
  | k, q :: l => bif Nat.beq k q.1 then some q.2 else ip_lk k l
theorem ip_lk_mem {α : Type} {k : Nat} {a : α} : ∀ {l : List (Nat × α)}, ip_lk k l = some a → (k, a) ∈ l
  | [], h => by cases h
  | q :: l, h => by
    unfold ip_lk at h
    cases hb : Nat.beq k q.1 with
    | true =>
      rw [hb] at h
      have h1 : q.2 = a := Option.some.inj h
      have h2 : k = q.1 := Nat.eq_of_beq_eq_true hb
      rw [h2, ← h1]
      exact List.mem_cons_self
    | false =>
      rw [hb] at h
      exact List.mem_cons_of_mem _ (ip_lk_mem h)
def ip_cnd (c : ClassFile.Cond) (x : Int32) : Bool := match c with
  | .eq => decide (x = 0)
  | .ne => decide (¬ x = 0)
  | .lt => decide (x < 0)
  | .ge => decide (0 ≤ x)
  | .gt => decide (0 < x)
  | .le => decide (x ≤ 0)
def ip_cmp (c : ClassFile.Cond) (x y : Int32) : Bool := match c with
  | .eq => decide (x = y)
  | .ne => decide (¬ x = y)
  | .lt => decide (x < y)
  | .ge => decide (y ≤ x)
  | .gt => decide (y < x)
  | .le => decide (x ≤ y)
def ip_ls {α : Type} : List α → Nat → α → Option (List α)
  | [], _, _ => none
  | _ :: l, 0, e => some (e :: l)
  | x :: l, k + 1, e => match ip_ls l k e with
    | some l' => some (x :: l')
    | none => none
theorem ip_ls_eq {α : Type} : ∀ {l : List α} {k : Nat} {e : α} {l' : List α}, ip_ls l k e = some l' → l' = l.set k e ∧ k < l.length
  | [], _, _, _, h => by cases h
  | x :: l, 0, e, l', h => by
    cases h
    exact ⟨rfl, Nat.zero_lt_succ _⟩
  | x :: l, k + 1, e, l', h => by
    unfold ip_ls at h
    cases hq : ip_ls l k e with
    | none => rw [hq] at h; cases h
    | some m =>
      rw [hq] at h
      cases h
      obtain ⟨h1, h2⟩ := ip_ls_eq hq
      exact ⟨by rw [h1]; rfl, Nat.succ_lt_succ h2⟩
def ip_pu {α : Type} : List α → α → Option (List α)
  | [], e => some [e]
  | x :: l, e => match ip_pu l e with
    | some l' => some (x :: l')
    | none => none
theorem ip_pu_eq {α : Type} : ∀ {l : List α} {e : α} {l' : List α}, ip_pu l e = some l' → l' = l ++ [e]
  | [], e, l', h => by cases h; rfl
  | x :: l, e, l', h => by
    unfold ip_pu at h
    cases hq : ip_pu l e with
    | none => rw [hq] at h; cases h
    | some m =>
      rw [hq] at h
      cases h
      rw [ip_pu_eq hq]
      rfl
/-- the cell before a store of a number, forgotten if it is the first half of a long -/
def ip_s1s (L : List (Option Value)) (i : Nat) (v : Value) : Option (List (Option Value)) := match i with
  | 0 => ip_ls L 0 (some v)
  | j + 1 => match L[j]? with
    | some (some w) => bif Nat.beq w.category 2 then match ip_ls L j none with
        | some L' => ip_ls L' (j + 1) (some v)
        | none => none
      else ip_ls L (j + 1) (some v)
    | _ => ip_ls L (j + 1) (some v)
theorem ip_s1s_eq {L L' : List (Option Value)} {i : Nat} {v : Value} (h : ip_s1s L i v = some L') : L' = ip_s1 L i v := by
  cases i with
  | zero => exact (ip_ls_eq h).1
  | succ j =>
    unfold ip_s1s at h
    unfold ip_s1 ip_cl
    cases hL : L[j]? with
    | none => simp only [hL] at h ⊢; exact (ip_ls_eq h).1
    | some o =>
      cases o with
      | none => simp only [hL] at h ⊢; exact (ip_ls_eq h).1
      | some w =>
        simp only [hL] at h ⊢
        cases hb : Nat.beq w.category 2 with
        | true =>
          rw [hb] at h
          simp only [cond_true] at h
          have hc : w.category = 2 := Nat.eq_of_beq_eq_true hb
          show _ = (if w.category = 2 then L.set j none else L).set (j + 1) (some v)
          rw [if_pos hc]
          cases hq : ip_ls L j none with
          | none => rw [hq] at h; cases h
          | some m =>
            rw [hq] at h
            rw [← (ip_ls_eq hq).1]
            exact (ip_ls_eq h).1
        | false =>
          rw [hb] at h
          simp only [cond_false] at h
          have hc : ¬ w.category = 2 := fun q => by rw [q] at hb; cases hb
          show _ = (if w.category = 2 then L.set j none else L).set (j + 1) (some v)
          rw [if_neg hc]
          exact (ip_ls_eq h).1
def ip_s2s (L : List (Option Value)) (i : Nat) (v : Value) : Option (List (Option Value)) := match ip_s1s L i v with
  | some L' => ip_ls L' (i + 1) none
  | none => none
theorem ip_s2s_eq {L L' : List (Option Value)} {i : Nat} {v : Value} (h : ip_s2s L i v = some L') : L' = ip_s2 L i v := by
  unfold ip_s2s at h
  cases hq : ip_s1s L i v with
  | none => rw [hq] at h; cases h
  | some m =>
    rw [hq] at h
    have h1 := (ip_ls_eq h).1
    rw [h1, ip_s1s_eq hq]
    rfl
def ip_in (i : Int32) (n : Nat) : Bool := !(decide (i < 0)) && Nat.blt i.toNatClampNeg n
theorem ip_in_ok {i : Int32} {n : Nat} (h : ip_in i n = true) : vp_in i n := by
  unfold ip_in at h
  simp only [Bool.and_eq_true, Bool.not_eq_true', decide_eq_false_iff_not] at h
  intro q
  rcases q with q | q
  · exact h.1 q
  · have := Nat.le_of_ble_eq_true h.2
    omega
def ip_tyA (a : ArrayType) : Option FieldType := match a with
  | .int => some .int
  | .byte => some .byte
  | .boolean => some .boolean
  | .long => some .long
  | _ => none
/-- one instruction that is no call, no return -/
def ip_ins (V : ip_V) (mL : Nat) (ini : Bool) (ins : Instr) (pc : Nat) (L : List (Option Value)) (st : List Value) (h : ip_H) : Option ip_K :=
  match ins with
  | .iconst n => some (pc + 1, L, .int (Int32.ofInt n) :: st, h)
  | .bipush n => some (pc + 2, L, .int (Int8.ofInt n).toInt32 :: st, h)
  | .sipush n => some (pc + 3, L, .int (Int16.ofInt n).toInt32 :: st, h)
  | .lconst n => some (pc + 1, L, .long (Int64.ofNat (n : Nat)) :: st, h)
  | .ldc i => match ip_lk i V.2.2.2.1 with
    | some v => some (pc + 2, L, .int v :: st, h)
    | none => none
  | .ldc_w i => match ip_lk i V.2.2.2.1 with
    | some v => some (pc + 3, L, .int v :: st, h)
    | none => none
  | .ldc2_w i => match ip_lk i V.2.2.2.2 with
    | some v => some (pc + 3, L, .long v :: st, h)
    | none => none
  | .iload i => match L[i]? with
    | some (some (.int x)) => some (pc + 2, L, .int x :: st, h)
    | _ => none
  | .iload_n i => match L[i.val]? with
    | some (some (.int x)) => some (pc + 1, L, .int x :: st, h)
    | _ => none
  | .lload i => match L[i]? with
    | some (some (.long x)) => some (pc + 2, L, .long x :: st, h)
    | _ => none
  | .lload_n i => match L[i.val]? with
    | some (some (.long x)) => some (pc + 1, L, .long x :: st, h)
    | _ => none
  | .aload i => match L[i]? with
    | some (some (.ref x)) => some (pc + 2, L, .ref x :: st, h)
    | _ => none
  | .aload_n i => match L[i.val]? with
    | some (some (.ref x)) => some (pc + 1, L, .ref x :: st, h)
    | _ => none
  | .istore i => match st with
    | .int x :: st => bif Nat.blt i mL then match ip_s1s L i (.int x) with
        | some L' => some (pc + 2, L', st, h)
        | none => none
      else none
    | _ => none
  | .istore_n i => match st with
    | .int x :: st => bif Nat.blt i.val mL then match ip_s1s L i.val (.int x) with
        | some L' => some (pc + 1, L', st, h)
        | none => none
      else none
    | _ => none
  | .lstore i => match st with
    | .long x :: st => bif Nat.blt (i + 1) mL then match ip_s2s L i (.long x) with
        | some L' => some (pc + 2, L', st, h)
        | none => none
      else none
    | _ => none
  | .lstore_n i => match st with
    | .long x :: st => bif Nat.blt (i.val + 1) mL then match ip_s2s L i.val (.long x) with
        | some L' => some (pc + 1, L', st, h)
        | none => none
      else none
    | _ => none
  | .astore i => match st with
    | .ref x :: st => bif Nat.blt i mL then match ip_s1s L i (.ref x) with
        | some L' => some (pc + 2, L', st, h)
        | none => none
      else none
    | _ => none
  | .astore_n i => match st with
    | .ref x :: st => bif Nat.blt i.val mL then match ip_s1s L i.val (.ref x) with
        | some L' => some (pc + 1, L', st, h)
        | none => none
      else none
    | _ => none
  | .iinc i n => match L[i]? with
    | some (some (.int x)) => bif Nat.blt i mL then match ip_s1s L i (.int (x + Int32.ofInt n)) with
        | some L' => some (pc + 3, L', st, h)
        | none => none
      else none
    | _ => none
  | .iadd => match st with
    | .int y :: .int x :: st => some (pc + 1, L, .int (x + y) :: st, h)
    | _ => none
  | .isub => match st with
    | .int y :: .int x :: st => some (pc + 1, L, .int (x - y) :: st, h)
    | _ => none
  | .imul => match st with
    | .int y :: .int x :: st => some (pc + 1, L, .int (x * y) :: st, h)
    | _ => none
  | .iand => match st with
    | .int y :: .int x :: st => some (pc + 1, L, .int (x &&& y) :: st, h)
    | _ => none
  | .ior => match st with
    | .int y :: .int x :: st => some (pc + 1, L, .int (x ||| y) :: st, h)
    | _ => none
  | .ixor => match st with
    | .int y :: .int x :: st => some (pc + 1, L, .int (x ^^^ y) :: st, h)
    | _ => none
  | .ineg => match st with
    | .int x :: st => some (pc + 1, L, .int (-x) :: st, h)
    | _ => none
  | .ishl => match st with
    | .int y :: .int x :: st => some (pc + 1, L, .int (x <<< (y &&& 31)) :: st, h)
    | _ => none
  | .ishr => match st with
    | .int y :: .int x :: st => some (pc + 1, L, .int (x >>> (y &&& 31)) :: st, h)
    | _ => none
  | .iushr => match st with
    | .int y :: .int x :: st => some (pc + 1, L, .int (x.toUInt32 >>> (y.toUInt32 &&& Int32.toUInt32 31)).toInt32 :: st, h)
    | _ => none
  | .ladd => match st with
    | .long y :: .long x :: st => some (pc + 1, L, .long (x + y) :: st, h)
    | _ => none
  | .lsub => match st with
    | .long y :: .long x :: st => some (pc + 1, L, .long (x - y) :: st, h)
    | _ => none
  | .lmul => match st with
    | .long y :: .long x :: st => some (pc + 1, L, .long (x * y) :: st, h)
    | _ => none
  | .land => match st with
    | .long y :: .long x :: st => some (pc + 1, L, .long (x &&& y) :: st, h)
    | _ => none
  | .lor => match st with
    | .long y :: .long x :: st => some (pc + 1, L, .long (x ||| y) :: st, h)
    | _ => none
  | .lxor => match st with
    | .long y :: .long x :: st => some (pc + 1, L, .long (x ^^^ y) :: st, h)
    | _ => none
  | .lneg => match st with
    | .long x :: st => some (pc + 1, L, .long (-x) :: st, h)
    | _ => none
  | .lshl => match st with
    | .int y :: .long x :: st => some (pc + 1, L, .long (x <<< (y.toInt64 &&& 63)) :: st, h)
    | _ => none
  | .lshr => match st with
    | .int y :: .long x :: st => some (pc + 1, L, .long (x >>> (y.toInt64 &&& 63)) :: st, h)
    | _ => none
  | .lushr => match st with
    | .int y :: .long x :: st => some (pc + 1, L, .long (x.toUInt64 >>> (y.toInt64.toUInt64 &&& Int64.toUInt64 63)).toInt64 :: st, h)
    | _ => none
  | .lcmp => match st with
    | .long y :: .long x :: st => some (pc + 1, L, .int (lg_cmp x y) :: st, h)
    | _ => none
  | .i2l => match st with
    | .int x :: st => some (pc + 1, L, .long x.toInt64 :: st, h)
    | _ => none
  | .l2i => match st with
    | .long x :: st => some (pc + 1, L, .int x.toInt32 :: st, h)
    | _ => none
  | .i2b => match st with
    | .int x :: st => some (pc + 1, L, .int x.toInt8.toInt32 :: st, h)
    | _ => none
  | .i2c => match st with
    | .int x :: st => some (pc + 1, L, .int (x.toUInt32 % 65536).toInt32 :: st, h)
    | _ => none
  | .dup => match st with
    | v :: st => bif Nat.beq v.category 1 then some (pc + 1, L, v :: v :: st, h) else none
    | _ => none
  | .pop => match st with
    | v :: st => bif Nat.beq v.category 1 then some (pc + 1, L, st, h) else none
    | _ => none
  | .dup_x1 => match st with
    | v :: w :: st => bif Nat.beq v.category 1 && Nat.beq w.category 1 then some (pc + 1, L, v :: w :: v :: st, h) else none
    | _ => none
  | .dup2 => match st with
    | v :: w :: st => bif Nat.beq v.category 1 && Nat.beq w.category 1 then some (pc + 1, L, v :: w :: v :: w :: st, h) else none
    | _ => none
  | .goto off => match (pc : Int) + off with
    | .ofNat t => some (t, L, st, h)
    | _ => none
  | .ifCond c off => match st with
    | .int x :: st => match (pc : Int) + off with
      | .ofNat t => bif ip_cnd c x then some (t, L, st, h) else some (pc + 3, L, st, h)
      | _ => none
    | _ => none
  | .if_icmp c off => match st with
    | .int y :: .int x :: st => match (pc : Int) + off with
      | .ofNat t => bif ip_cmp c x y then some (t, L, st, h) else some (pc + 3, L, st, h)
      | _ => none
    | _ => none
  | .getfield i => match st with
    | .ref n :: st => match ip_lk i V.2.1 with
      | some (ci, k, _, _) => match ip_h h n with
        | some (.inr (cj, fs)) => bif Nat.beq ci cj then match fs[k]? with
            | some v => some (pc + 3, L, v :: st, h)
            | none => none
          else none
        | _ => none
      | none => none
    | _ => none
  | .putfield i => match st with
    | v :: .ref n :: st => match ip_lk i V.2.1 with
      | some (ci, k, ty, fin) => match ip_h h n with
        | some (.inr (cj, fs)) => bif Nat.beq ci cj && fits ty v && (!fin || ini) then match ip_ls fs k v with
            | some fs' => match ip_ls h (n - 32) (.inr (cj, fs')) with
              | some h' => some (pc + 3, L, st, h')
              | none => none
            | none => none
          else none
        | _ => none
      | none => none
    | _ => none
  | .new i => match ip_lk i V.2.2.1 with
    | some (ci, fs) => match ip_pu h (.inr (ci, fs)) with
      | some h' => some (pc + 3, L, .ref (32 + h.length) :: st, h')
      | none => none
    | none => none
  | .newarray a => match st with
    | .int n :: st => match ip_tyA a with
      | some ty => bif !(decide (n < 0)) && Nat.ble n.toNatClampNeg 67108864 then match ip_pu h (.inl (ty, ip_zr ty n.toNatClampNeg)) with
          | some h' => some (pc + 2, L, .ref (32 + h.length) :: st, h')
          | none => none
        else none
      | none => none
    | _ => none
  | .arraylength => match st with
    | .ref n :: st => match ip_h h n with
      | some (.inl (.int, x)) => some (pc + 1, L, .int (Int32.ofNat x.1) :: st, h)
      | some (.inl (.byte, x)) => some (pc + 1, L, .int (Int32.ofNat x.1) :: st, h)
      | some (.inl (.boolean, x)) => some (pc + 1, L, .int (Int32.ofNat x.1) :: st, h)
      | some (.inl (.long, x)) => some (pc + 1, L, .int (Int32.ofNat x.1) :: st, h)
      | _ => none
    | _ => none
  | .iaload => match st with
    | .int i :: .ref n :: st => match ip_h h n with
      | some (.inl (.int, len, .inl f)) => bif ip_in i len then some (pc + 1, L, .int (f i.toNatClampNeg) :: st, h) else none
      | _ => none
    | _ => none
  | .baload => match st with
    | .int i :: .ref n :: st => match ip_h h n with
      | some (.inl (.byte, len, .inl f)) => bif ip_in i len then some (pc + 1, L, .int (f i.toNatClampNeg) :: st, h) else none
      | some (.inl (.boolean, len, .inl f)) => bif ip_in i len then some (pc + 1, L, .int (f i.toNatClampNeg) :: st, h) else none
      | _ => none
    | _ => none
  | .laload => match st with
    | .int i :: .ref n :: st => match ip_h h n with
      | some (.inl (.long, len, .inr (.inl f))) => bif ip_in i len then some (pc + 1, L, .long (f i.toNatClampNeg) :: st, h) else none
      | _ => none
    | _ => none
  | .iastore => match st with
    | .int x :: .int i :: .ref n :: st => match ip_h h n with
      | some (.inl (.int, len, .inl f)) => bif ip_in i len then match ip_ls h (n - 32) (.inl (.int, len, .inl (upd f i.toNatClampNeg x))) with
          | some h' => some (pc + 1, L, st, h')
          | none => none
        else none
      | _ => none
    | _ => none
  | .bastore => match st with
    | .int x :: .int i :: .ref n :: st => match ip_h h n with
      | some (.inl (.byte, len, .inl f)) => bif ip_in i len then match ip_ls h (n - 32) (.inl (.byte, len, .inl (upd f i.toNatClampNeg x.toInt8.toInt32))) with
          | some h' => some (pc + 1, L, st, h')
          | none => none
        else none
      | some (.inl (.boolean, len, .inl f)) => bif ip_in i len then match ip_ls h (n - 32) (.inl (.boolean, len, .inl (upd f i.toNatClampNeg (x &&& 1)))) with
          | some h' => some (pc + 1, L, st, h')
          | none => none
        else none
      | _ => none
    | _ => none
  | .lastore => match st with
    | .long x :: .int i :: .ref n :: st => match ip_h h n with
      | some (.inl (.long, len, .inr (.inl f))) => bif ip_in i len then match ip_ls h (n - 32) (.inl (.long, len, .inr (.inl (vp_updL f i.toNatClampNeg x)))) with
          | some h' => some (pc + 1, L, st, h')
          | none => none
        else none
      | _ => none
    | _ => none
  | _ => none
def ip_stp (V : ip_V) (mL : Nat) (ini : Bool) (σ : ip_K) : Option ip_K := match ip_lk σ.1 V.1 with
  | some i => ip_ins V mL ini i σ.1 σ.2.1 σ.2.2.1 σ.2.2.2
  | none => none
def ip_sts (V : ip_V) (mL : Nat) (ini : Bool) : Nat → ip_K → Option ip_K
  | 0, σ => some σ
  | n + 1, σ => match ip_stp V mL ini σ with
    | some σ' => ip_sts V mL ini n σ'
    | none => none
theorem ip_ins_ok {l : Launch} {G : ip_G} {M : ip_M} {d pc pc' : Nat} {L L' : List (Option Value)} {st st' : List Value} {h h' : ip_H} {r : Option Value × ip_H} {V : ip_V} {ini : Bool} {ins : Instr} (hV : ip_okV (ip_T G) (ip_C G) M V) (hini : ini = true → M.1.name = "<init>") (hq : decode M.2.1 pc = .ok (ins, ip_len pc ins))
    (hs : ip_ins V M.2.2.1 ini ins pc L st h = some (pc', L', st', h')) (k : ip_Rn l G M d pc' L' st' h' r) : ip_Rn l G M d pc L st h r := by
  cases ins with
  | iconst n => cases hs; exact ip_iconst hq rfl k
  | bipush n => cases hs; exact ip_bipush hq rfl k
  | sipush n => cases hs; exact ip_sipush hq rfl k
  | lconst n => cases hs; exact ip_lconst hq rfl k
  | ldc i =>
    simp only [ip_ins] at hs
    split at hs
    · next v hv => cases hs; exact ip_ldc hq (hV.2.2.2.1 _ (ip_lk_mem hv)) k
    · cases hs
  | ldc_w i =>
    simp only [ip_ins] at hs
    split at hs
    · next v hv => cases hs; exact ip_ldcw hq (hV.2.2.2.1 _ (ip_lk_mem hv)) k
    · cases hs
  | ldc2_w i =>
    simp only [ip_ins] at hs
    split at hs
    · next v hv => cases hs; exact ip_ldc2 hq (hV.2.2.2.2.1 _ (ip_lk_mem hv)) k
    · cases hs
  | iload i =>
    simp only [ip_ins] at hs
    split at hs
    · next x hv => cases hs; exact ip_iload hq hv k
    · cases hs
  | iload_n i =>
    simp only [ip_ins] at hs
    split at hs
    · next x hv => cases hs; exact ip_iload_n hq hv k
    · cases hs
  | lload i =>
    simp only [ip_ins] at hs
    split at hs
    · next x hv => cases hs; exact ip_lload hq hv k
    · cases hs
  | lload_n i =>
    simp only [ip_ins] at hs
    split at hs
    · next x hv => cases hs; exact ip_lload_n hq hv k
    · cases hs
  | aload i =>
    simp only [ip_ins] at hs
    split at hs
    · next x hv => cases hs; exact ip_aload hq hv k
    · cases hs
  | aload_n i =>
    simp only [ip_ins] at hs
    split at hs
    · next x hv => cases hs; exact ip_aload_n hq hv k
    · cases hs
  | istore i =>
    simp only [ip_ins] at hs
    split at hs
    · next x st1 =>
      cases hb : Nat.blt i M.2.2.1 with
      | true =>
        rw [hb] at hs
        simp only [cond_true] at hs
        split at hs
        · next L1 hl => cases hs; rw [ip_s1s_eq hl] at k; exact ip_istore hq (Nat.le_of_ble_eq_true hb) k
        · cases hs
      | false => rw [hb] at hs; cases hs
    · cases hs
  | istore_n i =>
    simp only [ip_ins] at hs
    split at hs
    · next x st1 =>
      cases hb : Nat.blt i.val M.2.2.1 with
      | true =>
        rw [hb] at hs
        simp only [cond_true] at hs
        split at hs
        · next L1 hl => cases hs; rw [ip_s1s_eq hl] at k; exact ip_istore_n hq (Nat.le_of_ble_eq_true hb) k
        · cases hs
      | false => rw [hb] at hs; cases hs
    · cases hs
  | lstore i =>
    simp only [ip_ins] at hs
    split at hs
    · next x st1 =>
      cases hb : Nat.blt (i + 1) M.2.2.1 with
      | true =>
        rw [hb] at hs
        simp only [cond_true] at hs
        split at hs
        · next L1 hl => cases hs; rw [ip_s2s_eq hl] at k; exact ip_lstore hq (Nat.le_of_ble_eq_true hb) k
        · cases hs
      | false => rw [hb] at hs; cases hs
    · cases hs
  | lstore_n i =>
    simp only [ip_ins] at hs
    split at hs
    · next x st1 =>
      cases hb : Nat.blt (i.val + 1) M.2.2.1 with
      | true =>
        rw [hb] at hs
        simp only [cond_true] at hs
        split at hs
        · next L1 hl => cases hs; rw [ip_s2s_eq hl] at k; exact ip_lstore_n hq (Nat.le_of_ble_eq_true hb) k
        · cases hs
      | false => rw [hb] at hs; cases hs
    · cases hs
  | astore i =>
    simp only [ip_ins] at hs
    split at hs
    · next x st1 =>
      cases hb : Nat.blt i M.2.2.1 with
      | true =>
        rw [hb] at hs
        simp only [cond_true] at hs
        split at hs
        · next L1 hl => cases hs; rw [ip_s1s_eq hl] at k; exact ip_astore hq (Nat.le_of_ble_eq_true hb) k
        · cases hs
      | false => rw [hb] at hs; cases hs
    · cases hs
  | astore_n i =>
    simp only [ip_ins] at hs
    split at hs
    · next x st1 =>
      cases hb : Nat.blt i.val M.2.2.1 with
      | true =>
        rw [hb] at hs
        simp only [cond_true] at hs
        split at hs
        · next L1 hl => cases hs; rw [ip_s1s_eq hl] at k; exact ip_astore_n hq (Nat.le_of_ble_eq_true hb) k
        · cases hs
      | false => rw [hb] at hs; cases hs
    · cases hs
  | iinc i n =>
    simp only [ip_ins] at hs
    split at hs
    · next x hv =>
      cases hb : Nat.blt i M.2.2.1 with
      | true =>
        rw [hb] at hs
        simp only [cond_true] at hs
        split at hs
        · next L1 hl => cases hs; rw [ip_s1s_eq hl] at k; exact ip_iinc hq hv (Nat.le_of_ble_eq_true hb) k
        · cases hs
      | false => rw [hb] at hs; cases hs
    · cases hs
  | iadd =>
    simp only [ip_ins] at hs
    split at hs
    · cases hs; exact ip_iadd hq k
    · cases hs
  | isub =>
    simp only [ip_ins] at hs
    split at hs
    · cases hs; exact ip_isub hq k
    · cases hs
  | imul =>
    simp only [ip_ins] at hs
    split at hs
    · cases hs; exact ip_imul hq k
    · cases hs
  | iand =>
    simp only [ip_ins] at hs
    split at hs
    · cases hs; exact ip_iand hq k
    · cases hs
  | ior =>
    simp only [ip_ins] at hs
    split at hs
    · cases hs; exact ip_ior hq k
    · cases hs
  | ixor =>
    simp only [ip_ins] at hs
    split at hs
    · cases hs; exact ip_ixor hq k
    · cases hs
  | ishl =>
    simp only [ip_ins] at hs
    split at hs
    · cases hs; exact ip_ishl hq k
    · cases hs
  | ishr =>
    simp only [ip_ins] at hs
    split at hs
    · cases hs; exact ip_ishr hq k
    · cases hs
  | ladd =>
    simp only [ip_ins] at hs
    split at hs
    · cases hs; exact ip_ladd hq k
    · cases hs
  | lsub =>
    simp only [ip_ins] at hs
    split at hs
    · cases hs; exact ip_lsub hq k
    · cases hs
  | lmul =>
    simp only [ip_ins] at hs
    split at hs
    · cases hs; exact ip_lmul hq k
    · cases hs
  | land =>
    simp only [ip_ins] at hs
    split at hs
    · cases hs; exact ip_land hq k
    · cases hs
  | lor =>
    simp only [ip_ins] at hs
    split at hs
    · cases hs; exact ip_lor hq k
    · cases hs
  | lxor =>
    simp only [ip_ins] at hs
    split at hs
    · cases hs; exact ip_lxor hq k
    · cases hs
  | lshl =>
    simp only [ip_ins] at hs
    split at hs
    · cases hs; exact ip_lshl hq k
    · cases hs
  | lshr =>
    simp only [ip_ins] at hs
    split at hs
    · cases hs; exact ip_lshr hq k
    · cases hs
  | lushr =>
    simp only [ip_ins] at hs
    split at hs
    · cases hs; exact ip_lushr hq k
    · cases hs
  | lcmp =>
    simp only [ip_ins] at hs
    split at hs
    · cases hs; exact ip_lcmp hq k
    · cases hs
  | ineg =>
    simp only [ip_ins] at hs
    split at hs
    · cases hs; exact ip_ineg hq k
    · cases hs
  | lneg =>
    simp only [ip_ins] at hs
    split at hs
    · cases hs; exact ip_lneg hq k
    · cases hs
  | i2l =>
    simp only [ip_ins] at hs
    split at hs
    · cases hs; exact ip_i2l hq k
    · cases hs
  | l2i =>
    simp only [ip_ins] at hs
    split at hs
    · cases hs; exact ip_l2i hq k
    · cases hs
  | i2b =>
    simp only [ip_ins] at hs
    split at hs
    · cases hs; exact ip_i2b hq k
    · cases hs
  | i2c =>
    simp only [ip_ins] at hs
    split at hs
    · cases hs; exact ip_i2c hq k
    · cases hs
  | iushr =>
    simp only [ip_ins] at hs
    split at hs
    · cases hs; exact ip_iushr hq rfl k
    · cases hs
  | dup =>
    simp only [ip_ins] at hs
    split at hs
    · next v st1 =>
      cases hb : Nat.beq v.category 1 with
      | true => rw [hb] at hs; cases hs; exact ip_dup hq (Nat.eq_of_beq_eq_true hb) k
      | false => rw [hb] at hs; cases hs
    · cases hs
  | pop =>
    simp only [ip_ins] at hs
    split at hs
    · next v st1 =>
      cases hb : Nat.beq v.category 1 with
      | true => rw [hb] at hs; cases hs; exact ip_pop hq (Nat.eq_of_beq_eq_true hb) k
      | false => rw [hb] at hs; cases hs
    · cases hs
  | dup_x1 =>
    simp only [ip_ins] at hs
    split at hs
    · next v w st1 =>
      cases hb : Nat.beq v.category 1 with
      | true =>
        cases hb2 : Nat.beq w.category 1 with
        | true => rw [hb, hb2] at hs; cases hs; exact ip_dup_x1 hq (Nat.eq_of_beq_eq_true hb) (Nat.eq_of_beq_eq_true hb2) k
        | false => rw [hb, hb2] at hs; cases hs
      | false => rw [hb] at hs; cases hs
    · cases hs
  | dup2 =>
    simp only [ip_ins] at hs
    split at hs
    · next v w st1 =>
      cases hb : Nat.beq v.category 1 with
      | true =>
        cases hb2 : Nat.beq w.category 1 with
        | true => rw [hb, hb2] at hs; cases hs; exact ip_dup2_11 hq (Nat.eq_of_beq_eq_true hb) (Nat.eq_of_beq_eq_true hb2) k
        | false => rw [hb, hb2] at hs; cases hs
      | false => rw [hb] at hs; cases hs
    · cases hs
  | goto off =>
    simp only [ip_ins] at hs
    split at hs
    · next t ht => cases hs; exact ip_goto hq ht k
    · cases hs
  | ifCond c off =>
    simp only [ip_ins] at hs
    split at hs
    · next x st1 =>
      split at hs
      · next t ht =>
        cases hb : ip_cnd c x with
        | true =>
          rw [hb] at hs
          cases hs
          cases c with
          | eq => exact ip_if_eq_t hq ht (of_decide_eq_true hb) k
          | ne => exact ip_if_ne_t hq ht (of_decide_eq_true hb) k
          | lt => exact ip_if_lt_t hq ht (of_decide_eq_true hb) k
          | ge => exact ip_if_ge_t hq ht (of_decide_eq_true hb) k
          | gt => exact ip_if_gt_t hq ht (of_decide_eq_true hb) k
          | le => exact ip_if_le_t hq ht (of_decide_eq_true hb) k
        | false =>
          rw [hb] at hs
          cases hs
          cases c with
          | eq => exact ip_if_eq_f hq ht (of_decide_eq_false hb) k
          | ne => exact ip_if_ne_f hq ht (Decidable.not_not.mp (of_decide_eq_false hb)) k
          | lt => exact ip_if_lt_f hq ht (of_decide_eq_false hb) k
          | ge => exact ip_if_ge_f hq ht (of_decide_eq_false hb) k
          | gt => exact ip_if_gt_f hq ht (of_decide_eq_false hb) k
          | le => exact ip_if_le_f hq ht (of_decide_eq_false hb) k
      · cases hs
    · cases hs
  | if_icmp c off =>
    simp only [ip_ins] at hs
    split at hs
    · next y x st1 =>
      split at hs
      · next t ht =>
        cases hb : ip_cmp c x y with
        | true =>
          rw [hb] at hs
          cases hs
          cases c with
          | eq => exact ip_icmp_eq_t hq ht (of_decide_eq_true hb) k
          | ne => exact ip_icmp_ne_t hq ht (of_decide_eq_true hb) k
          | lt => exact ip_icmp_lt_t hq ht (of_decide_eq_true hb) k
          | ge => exact ip_icmp_ge_t hq ht (of_decide_eq_true hb) k
          | gt => exact ip_icmp_gt_t hq ht (of_decide_eq_true hb) k
          | le => exact ip_icmp_le_t hq ht (of_decide_eq_true hb) k
        | false =>
          rw [hb] at hs
          cases hs
          cases c with
          | eq => exact ip_icmp_eq_f hq ht (of_decide_eq_false hb) k
          | ne => exact ip_icmp_ne_f hq ht (Decidable.not_not.mp (of_decide_eq_false hb)) k
          | lt => exact ip_icmp_lt_f hq ht (of_decide_eq_false hb) k
          | ge => exact ip_icmp_ge_f hq ht (of_decide_eq_false hb) k
          | gt => exact ip_icmp_gt_f hq ht (of_decide_eq_false hb) k
          | le => exact ip_icmp_le_f hq ht (of_decide_eq_false hb) k
      · cases hs
    · cases hs
  | getfield i =>
    simp only [ip_ins] at hs
    split at hs
    · next n st1 =>
      split at hs
      · next ci kk ty fin hl =>
        split at hs
        · next cj fs hh =>
          cases hb : Nat.beq ci cj with
          | true =>
            rw [hb] at hs
            have e : ci = cj := Nat.eq_of_beq_eq_true hb
            subst e
            simp only [cond_true] at hs
            split at hs
            · next v hv => cases hs; exact ip_getf hq (hV.2.1 _ (ip_lk_mem hl)).1 hh hv k
            · cases hs
          | false => rw [hb] at hs; cases hs
        · cases hs
      · cases hs
    · cases hs
  | putfield i =>
    simp only [ip_ins] at hs
    split at hs
    · next v n st1 =>
      split at hs
      · next ci kk ty fin hl =>
        split at hs
        · next cj fs hh =>
          cases hb : Nat.beq ci cj && fits ty v && (!fin || ini) with
          | true =>
            rw [hb] at hs
            simp only [cond_true] at hs
            simp only [Bool.and_eq_true] at hb
            obtain ⟨⟨b1, b3⟩, b4⟩ := hb
            have e : ci = cj := Nat.eq_of_beq_eq_true b1
            subst e
            split at hs
            · next fs1 hf =>
              split at hs
              · next h1 hh1 =>
                cases hs
                obtain ⟨e1, b2⟩ := ip_ls_eq hf
                subst e1
                rw [(ip_ls_eq hh1).1] at k
                have hF := hV.2.1 _ (ip_lk_mem hl)
                cases fin with
                | false => exact ip_putf hq hF.1 hh b2 b3 k
                | true =>
                  have hn : M.1.name = "<init>" := hini (by simpa using b4)
                  rcases hF.2 rfl with q | q
                  · exact ip_putF hq q hn hh b2 b3 k
                  · exact absurd hn q
              · cases hs
            · cases hs
          | false => rw [hb] at hs; cases hs
        · cases hs
      · cases hs
    · cases hs
  | new i =>
    simp only [ip_ins] at hs
    split at hs
    · next ci fs hl =>
      split at hs
      · next h1 hh1 => cases hs; rw [ip_pu_eq hh1] at k; exact ip_new hq (hV.2.2.1 _ (ip_lk_mem hl)) k
      · cases hs
    · cases hs
  | newarray a =>
    simp only [ip_ins] at hs
    split at hs
    · next n st1 =>
      split at hs
      · next ty hty =>
        cases hb : !(decide (n < 0)) && Nat.ble n.toNatClampNeg 67108864 with
        | true =>
          rw [hb] at hs
          simp only [cond_true] at hs
          split at hs
          case h_2 => cases hs
          next h1 hh1 =>
          cases hs
          rw [ip_pu_eq hh1] at k
          simp only [Bool.and_eq_true, Bool.not_eq_true', decide_eq_false_iff_not] at hb
          have hsz : n.toNatClampNeg * 8 ≤ 536870912 := by have := Nat.le_of_ble_eq_true hb.2; omega
          obtain ⟨w1, w2, w3, w4⟩ := hV.2.2.2.2.2
          cases a <;> first | (cases hty; done) | skip
          · cases hty; exact ip_newa .boolean rfl (Or.inr (Or.inr (Or.inl rfl))) hq w3 hb.1 rfl hsz k
          · cases hty; exact ip_newa .byte rfl (Or.inr (Or.inl rfl)) hq w2 hb.1 rfl hsz k
          · cases hty; exact ip_newa .int rfl (Or.inl rfl) hq w1 hb.1 rfl hsz k
          · cases hty; exact ip_newa .long rfl (Or.inr (Or.inr (Or.inr rfl))) hq w4 hb.1 rfl hsz k
        | false => rw [hb] at hs; cases hs
      · cases hs
    · cases hs
  | arraylength =>
    simp only [ip_ins] at hs
    split at hs
    · split at hs
      · next hh => cases hs; exact ip_alen hq hh rfl rfl k
      · next hh => cases hs; exact ip_alen hq hh rfl rfl k
      · next hh => cases hs; exact ip_alen hq hh rfl rfl k
      · next hh => cases hs; exact ip_alen hq hh rfl rfl k
      · cases hs
    · cases hs
  | iaload =>
    simp only [ip_ins] at hs
    split at hs
    · next i n st1 =>
      split at hs
      · next len f hh =>
        cases hb : ip_in i len with
        | true => rw [hb] at hs; cases hs; exact ip_iald hq hh (ip_in_ok hb) k
        | false => rw [hb] at hs; cases hs
      · cases hs
    · cases hs
  | baload =>
    simp only [ip_ins] at hs
    split at hs
    · next i n st1 =>
      split at hs
      · next len f hh =>
        cases hb : ip_in i len with
        | true => rw [hb] at hs; cases hs; exact ip_bald hq hh (ip_in_ok hb) k
        | false => rw [hb] at hs; cases hs
      · next len f hh =>
        cases hb : ip_in i len with
        | true => rw [hb] at hs; cases hs; exact ip_zald hq hh (ip_in_ok hb) k
        | false => rw [hb] at hs; cases hs
      · cases hs
    · cases hs
  | laload =>
    simp only [ip_ins] at hs
    split at hs
    · next i n st1 =>
      split at hs
      · next len f hh =>
        cases hb : ip_in i len with
        | true => rw [hb] at hs; cases hs; exact ip_lald hq hh (ip_in_ok hb) k
        | false => rw [hb] at hs; cases hs
      · cases hs
    · cases hs
  | iastore =>
    simp only [ip_ins] at hs
    split at hs
    · next x i n st1 =>
      split at hs
      · next len f hh =>
        cases hb : ip_in i len with
        | true =>
          rw [hb] at hs
          simp only [cond_true] at hs
          split at hs
          · next h1 hh1 => cases hs; rw [(ip_ls_eq hh1).1] at k; exact ip_iast hq hh (ip_in_ok hb) k
          · cases hs
        | false => rw [hb] at hs; cases hs
      · cases hs
    · cases hs
  | bastore =>
    simp only [ip_ins] at hs
    split at hs
    · next x i n st1 =>
      split at hs
      · next len f hh =>
        cases hb : ip_in i len with
        | true =>
          rw [hb] at hs
          simp only [cond_true] at hs
          split at hs
          · next h1 hh1 => cases hs; rw [(ip_ls_eq hh1).1] at k; exact ip_bast hq hh (ip_in_ok hb) k
          · cases hs
        | false => rw [hb] at hs; cases hs
      · next len f hh =>
        cases hb : ip_in i len with
        | true =>
          rw [hb] at hs
          simp only [cond_true] at hs
          split at hs
          · next h1 hh1 => cases hs; rw [(ip_ls_eq hh1).1] at k; exact ip_zast hq hh (ip_in_ok hb) k
          · cases hs
        | false => rw [hb] at hs; cases hs
      · cases hs
    · cases hs
  | lastore =>
    simp only [ip_ins] at hs
    split at hs
    · next x i n st1 =>
      split at hs
      · next len f hh =>
        cases hb : ip_in i len with
        | true =>
          rw [hb] at hs
          simp only [cond_true] at hs
          split at hs
          · next h1 hh1 => cases hs; rw [(ip_ls_eq hh1).1] at k; exact ip_last hq hh (ip_in_ok hb) k
          · cases hs
        | false => rw [hb] at hs; cases hs
      · cases hs
    · cases hs
  | _ => cases hs
theorem ip_stp_ok {l : Launch} {G : ip_G} {M : ip_M} {d : Nat} {σ σ' : ip_K} {r : Option Value × ip_H} {V : ip_V} {ini : Bool} (hV : ip_okV (ip_T G) (ip_C G) M V) (hini : ini = true → M.1.name = "<init>")
    (hs : ip_stp V M.2.2.1 ini σ = some σ') (k : ip_Rn l G M d σ'.1 σ'.2.1 σ'.2.2.1 σ'.2.2.2 r) : ip_Rn l G M d σ.1 σ.2.1 σ.2.2.1 σ.2.2.2 r := by
  obtain ⟨a1, a2, a3, a4⟩ := σ
  obtain ⟨b1, b2, b3, b4⟩ := σ'
  unfold ip_stp at hs
  split at hs
  · next i hi =>
    have hq := hV.1 _ (ip_lk_mem hi)
    exact ip_ins_ok (pc := a1) (pc' := b1) (L := a2) (L' := b2) (st := a3) (st' := b3) (h := a4) (h' := b4) hV hini hq hs k
  · cases hs
theorem ip_sts_ok {l : Launch} {G : ip_G} {M : ip_M} {d : Nat} {r : Option Value × ip_H} {V : ip_V} {ini : Bool} (hV : ip_okV (ip_T G) (ip_C G) M V) (hini : ini = true → M.1.name = "<init>") : ∀ (n : Nat) {σ σ' : ip_K}, ip_sts V M.2.2.1 ini n σ = some σ' → ip_Rn l G M d σ'.1 σ'.2.1 σ'.2.2.1 σ'.2.2.2 r → ip_Rn l G M d σ.1 σ.2.1 σ.2.2.1 σ.2.2.2 r
  | 0, σ, σ', hs, k => by cases hs; exact k
  | n + 1, σ, σ', hs, k => by
    unfold ip_sts at hs
    split at hs
    · next σ1 h1 => exact ip_stp_ok hV hini h1 (ip_sts_ok hV hini n hs k)
    · cases hs
