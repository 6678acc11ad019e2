section IPP
variable {l : Launch} {G : ip_G} {M : ip_M} {d pc : Nat} {L : List (Option Value)} {st : List Value} {h : ip_H} {r : Option Value × ip_H}
theorem ip_pure {pc' : Nat} {L' : List (Option Value)} {st' : List Value}
    (hs : ∀ (p : Program) (e : Env) (R : Room) (s : State) (m : MethodId) (args : Array Value) (below : List Frame) (meth : Method) (c : Code) (Q : State → Prop) (H : Heap) (locs : List Loc) (cells slots : Nat) (ls : Array Slot),
      ip_Cx G M p s m args meth c → d ≤ R.frames → 41 * d ≤ R.locals → ip_L G ls M.2.2.1 L → (∀ ls' : Array Slot, ip_L G ls' M.2.2.1 L' → W p l e R s m args below meth c H locs cells slots Q (F0 m pc' ls' (st'.map (ip_v G)))) → W p l e R s m args below meth c H locs cells slots Q (F0 m pc ls (st.map (ip_v G))))
    (k : ip_Rn l G M d pc' L' st' h r) : ip_Rn l G M d pc L st h r :=
  ⟨k.1, fun p e R s m args below meth c Q H locs cells slots ls C hd hl hc hsl hL hSt hS kk =>
    hs p e R s m args below meth c Q H locs cells slots ls C hd hl hL (fun ls' hL' => k.2 p e R s m args below meth c Q H locs cells slots ls' C hd hl hc hsl hL' hSt hS kk)⟩
theorem ip_iconst {n : Int} {v : Int32} (hd : decode M.2.1 pc = .ok (.iconst n, 1)) (hv : Int32.ofInt n = v) (k : ip_Rn l G M d (pc + 1) L (.int v :: st) h r) : ip_Rn l G M d pc L st h r :=
  ip_pure (fun _ _ _ _ _ _ _ _ _ _ _ _ _ _ _ C _ _ hL kk => lv_iconst C.1 C.2.1 hd hv (kk _ hL)) k
theorem ip_bipush {n : Int} {v : Int32} (hd : decode M.2.1 pc = .ok (.bipush n, 2)) (hv : (Int8.ofInt n).toInt32 = v) (k : ip_Rn l G M d (pc + 2) L (.int v :: st) h r) : ip_Rn l G M d pc L st h r :=
  ip_pure (fun _ _ _ _ _ _ _ _ _ _ _ _ _ _ _ C _ _ hL kk => lv_bipush C.1 C.2.1 hd hv (kk _ hL)) k
theorem ip_sipush {n : Int} {v : Int32} (hd : decode M.2.1 pc = .ok (.sipush n, 3)) (hv : (Int16.ofInt n).toInt32 = v) (k : ip_Rn l G M d (pc + 3) L (.int v :: st) h r) : ip_Rn l G M d pc L st h r :=
  ip_pure (fun _ _ _ _ _ _ _ _ _ _ _ _ _ _ _ C _ _ hL kk => lv_sipush C.1 C.2.1 hd hv (kk _ hL)) k
theorem ip_lconst {n : Fin 2} {v : Int64} (hd : decode M.2.1 pc = .ok (.lconst n, 1)) (hv : Int64.ofNat (n : Nat) = v) (k : ip_Rn l G M d (pc + 1) L (.long v :: st) h r) : ip_Rn l G M d pc L st h r :=
  ip_pure (fun _ _ _ _ _ _ _ _ _ _ _ _ _ _ _ C _ _ hL kk => lv_lconst C.1 C.2.1 hd hv (kk _ hL)) k
theorem ip_ldc {i : Nat} {v : Int32} (hd : decode M.2.1 pc = .ok (.ldc i, 2)) (hw : Cond.constant M.1.cls i v ∈ ip_T G) (k : ip_Rn l G M d (pc + 2) L (.int v :: st) h r) : ip_Rn l G M d pc L st h r :=
  ip_pure (fun _ _ _ _ _ _ _ _ _ _ _ _ _ _ _ C _ _ hL kk => lv_ldc C.1 C.2.1 C.2.2.2.2.1 (C.2.2.2.2.2.1 _ hw) hd (kk _ hL)) k
theorem ip_ldcw {i : Nat} {v : Int32} (hd : decode M.2.1 pc = .ok (.ldc_w i, 3)) (hw : Cond.constant M.1.cls i v ∈ ip_T G) (k : ip_Rn l G M d (pc + 3) L (.int v :: st) h r) : ip_Rn l G M d pc L st h r :=
  ip_pure (fun _ _ _ _ _ _ _ _ _ _ _ _ _ _ _ C _ _ hL kk => lv_ldcw C.1 C.2.1 C.2.2.2.2.1 (C.2.2.2.2.2.1 _ hw) hd (kk _ hL)) k
theorem ip_ldc2 {i : Nat} {v : Int64} (hd : decode M.2.1 pc = .ok (.ldc2_w i, 3)) (hw : Cond.constantLong M.1.cls i v ∈ ip_T G) (k : ip_Rn l G M d (pc + 3) L (.long v :: st) h r) : ip_Rn l G M d pc L st h r :=
  ip_pure (fun _ _ _ _ _ _ _ _ _ _ _ _ _ _ _ C _ _ hL kk => lv_ldc2 C.1 C.2.1 C.2.2.2.2.1 (C.2.2.2.2.2.1 _ hw) hd (kk _ hL)) k
theorem ip_iload {i : Nat} {x : Int32} (hd : decode M.2.1 pc = .ok (.iload i, 2)) (hv : L[i]? = some (some (.int x))) (k : ip_Rn l G M d (pc + 2) L (.int x :: st) h r) : ip_Rn l G M d pc L st h r :=
  ip_pure (fun _ _ _ _ _ _ _ _ _ _ _ _ _ _ _ C _ _ hL kk => lv_iload C.1 C.2.1 hd (hL.2.2 _ _ hv) (kk _ hL)) k
theorem ip_iload_n {i : Fin 4} {x : Int32} (hd : decode M.2.1 pc = .ok (.iload_n i, 1)) (hv : L[i.val]? = some (some (.int x))) (k : ip_Rn l G M d (pc + 1) L (.int x :: st) h r) : ip_Rn l G M d pc L st h r :=
  ip_pure (fun _ _ _ _ _ _ _ _ _ _ _ _ _ _ _ C _ _ hL kk => lv_iload_n C.1 C.2.1 hd rfl (hL.2.2 _ _ hv) (kk _ hL)) k
theorem ip_lload {i : Nat} {x : Int64} (hd : decode M.2.1 pc = .ok (.lload i, 2)) (hv : L[i]? = some (some (.long x))) (k : ip_Rn l G M d (pc + 2) L (.long x :: st) h r) : ip_Rn l G M d pc L st h r :=
  ip_pure (fun _ _ _ _ _ _ _ _ _ _ _ _ _ _ _ C _ _ hL kk => lv_lload C.1 C.2.1 hd (hL.2.2 _ _ hv) (kk _ hL)) k
theorem ip_lload_n {i : Fin 4} {x : Int64} (hd : decode M.2.1 pc = .ok (.lload_n i, 1)) (hv : L[i.val]? = some (some (.long x))) (k : ip_Rn l G M d (pc + 1) L (.long x :: st) h r) : ip_Rn l G M d pc L st h r :=
  ip_pure (fun _ _ _ _ _ _ _ _ _ _ _ _ _ _ _ C _ _ hL kk => lv_lload_n C.1 C.2.1 hd rfl (hL.2.2 _ _ hv) (kk _ hL)) k
theorem ip_aload {i : Nat} {x : Nat} (hd : decode M.2.1 pc = .ok (.aload i, 2)) (hv : L[i]? = some (some (.ref x))) (k : ip_Rn l G M d (pc + 2) L (.ref x :: st) h r) : ip_Rn l G M d pc L st h r :=
  ip_pure (fun _ _ _ _ _ _ _ _ _ _ _ _ _ _ _ C _ _ hL kk => lv_aload C.1 C.2.1 hd (hL.2.2 _ _ hv) (kk _ hL)) k
theorem ip_aload_n {i : Fin 4} {x : Nat} (hd : decode M.2.1 pc = .ok (.aload_n i, 1)) (hv : L[i.val]? = some (some (.ref x))) (k : ip_Rn l G M d (pc + 1) L (.ref x :: st) h r) : ip_Rn l G M d pc L st h r :=
  ip_pure (fun _ _ _ _ _ _ _ _ _ _ _ _ _ _ _ C _ _ hL kk => lv_aload_n C.1 C.2.1 hd rfl (hL.2.2 _ _ hv) (kk _ hL)) k
theorem ip_istore {i : Nat} {x : Int32} (hd : decode M.2.1 pc = .ok (.istore i, 2)) (hi : i < M.2.2.1) (k : ip_Rn l G M d (pc + 2) (ip_s1 L i (.int x)) st h r) : ip_Rn l G M d pc L (.int x :: st) h r :=
  ip_pure (fun _ _ _ _ _ _ _ _ _ _ _ _ _ _ _ C _ _ hL kk => lv_istore C.1 C.2.1 hd hL.has hi rfl (fun ls' h' => kk ls' (ip_L_s1 rfl h'))) k
theorem ip_istore_n {i : Fin 4} {x : Int32} (hd : decode M.2.1 pc = .ok (.istore_n i, 1)) (hi : i.val < M.2.2.1) (k : ip_Rn l G M d (pc + 1) (ip_s1 L i.val (.int x)) st h r) : ip_Rn l G M d pc L (.int x :: st) h r :=
  ip_pure (fun _ _ _ _ _ _ _ _ _ _ _ _ _ _ _ C _ _ hL kk => lv_istore_n C.1 C.2.1 hd rfl hL.has hi rfl (fun ls' h' => kk ls' (ip_L_s1 rfl h'))) k
theorem ip_lstore {i : Nat} {x : Int64} (hd : decode M.2.1 pc = .ok (.lstore i, 2)) (hi : i + 1 < M.2.2.1) (k : ip_Rn l G M d (pc + 2) (ip_s2 L i (.long x)) st h r) : ip_Rn l G M d pc L (.long x :: st) h r :=
  ip_pure (fun _ _ _ _ _ _ _ _ _ _ _ _ _ _ _ C _ _ hL kk => lv_lstore C.1 C.2.1 hd hL.has hi rfl (fun ls' h' => kk ls' (ip_L_s2 rfl h'))) k
theorem ip_lstore_n {i : Fin 4} {x : Int64} (hd : decode M.2.1 pc = .ok (.lstore_n i, 1)) (hi : i.val + 1 < M.2.2.1) (k : ip_Rn l G M d (pc + 1) (ip_s2 L i.val (.long x)) st h r) : ip_Rn l G M d pc L (.long x :: st) h r :=
  ip_pure (fun _ _ _ _ _ _ _ _ _ _ _ _ _ _ _ C _ _ hL kk => lv_lstore_n C.1 C.2.1 hd rfl hL.has hi rfl (fun ls' h' => kk ls' (ip_L_s2 rfl h'))) k
theorem ip_astore {i : Nat} {x : Nat} (hd : decode M.2.1 pc = .ok (.astore i, 2)) (hi : i < M.2.2.1) (k : ip_Rn l G M d (pc + 2) (ip_s1 L i (.ref x)) st h r) : ip_Rn l G M d pc L (.ref x :: st) h r :=
  ip_pure (fun _ _ _ _ _ _ _ _ _ _ _ _ _ _ _ C _ _ hL kk => lv_astore C.1 C.2.1 hd hL.has hi rfl (fun ls' h' => kk ls' (ip_L_s1 rfl h'))) k
theorem ip_astore_n {i : Fin 4} {x : Nat} (hd : decode M.2.1 pc = .ok (.astore_n i, 1)) (hi : i.val < M.2.2.1) (k : ip_Rn l G M d (pc + 1) (ip_s1 L i.val (.ref x)) st h r) : ip_Rn l G M d pc L (.ref x :: st) h r :=
  ip_pure (fun _ _ _ _ _ _ _ _ _ _ _ _ _ _ _ C _ _ hL kk => lv_astore_n C.1 C.2.1 hd rfl hL.has hi rfl (fun ls' h' => kk ls' (ip_L_s1 rfl h'))) k
theorem ip_iinc {i : Nat} {n : Int} {x : Int32} (hd : decode M.2.1 pc = .ok (.iinc i n, 3)) (hv : L[i]? = some (some (.int x))) (hi : i < M.2.2.1) (k : ip_Rn l G M d (pc + 3) (ip_s1 L i (.int (x + Int32.ofInt n))) st h r) : ip_Rn l G M d pc L st h r :=
  ip_pure (fun _ _ _ _ _ _ _ _ _ _ _ _ _ _ _ C _ _ hL kk => by
    obtain ⟨q, hq⟩ := List.getElem?_of_mem (ip_lv_in G L 0 i _ hv)
    rw [Nat.zero_add] at hq
    exact lv_iinc C.1 C.2.1 hd hL.has hq rfl hi rfl (fun ls' h' => kk ls' (ip_L_s1 rfl h'))) k
theorem ip_iadd {x y : Int32} (hd : decode M.2.1 pc = .ok (.iadd, 1)) (k : ip_Rn l G M d (pc + 1) L (.int (x + y) :: st) h r) : ip_Rn l G M d pc L (.int y :: .int x :: st) h r :=
  ip_pure (fun _ _ _ _ _ _ _ _ _ _ _ _ _ _ _ C _ _ hL kk => lv_iadd C.1 C.2.1 hd (kk _ hL)) k
theorem ip_isub {x y : Int32} (hd : decode M.2.1 pc = .ok (.isub, 1)) (k : ip_Rn l G M d (pc + 1) L (.int (x - y) :: st) h r) : ip_Rn l G M d pc L (.int y :: .int x :: st) h r :=
  ip_pure (fun _ _ _ _ _ _ _ _ _ _ _ _ _ _ _ C _ _ hL kk => lv_isub C.1 C.2.1 hd (kk _ hL)) k
theorem ip_imul {x y : Int32} (hd : decode M.2.1 pc = .ok (.imul, 1)) (k : ip_Rn l G M d (pc + 1) L (.int (x * y) :: st) h r) : ip_Rn l G M d pc L (.int y :: .int x :: st) h r :=
  ip_pure (fun _ _ _ _ _ _ _ _ _ _ _ _ _ _ _ C _ _ hL kk => lv_imul C.1 C.2.1 hd (kk _ hL)) k
theorem ip_iand {x y : Int32} (hd : decode M.2.1 pc = .ok (.iand, 1)) (k : ip_Rn l G M d (pc + 1) L (.int (x &&& y) :: st) h r) : ip_Rn l G M d pc L (.int y :: .int x :: st) h r :=
  ip_pure (fun _ _ _ _ _ _ _ _ _ _ _ _ _ _ _ C _ _ hL kk => lv_iand C.1 C.2.1 hd (kk _ hL)) k
theorem ip_ior {x y : Int32} (hd : decode M.2.1 pc = .ok (.ior, 1)) (k : ip_Rn l G M d (pc + 1) L (.int (x ||| y) :: st) h r) : ip_Rn l G M d pc L (.int y :: .int x :: st) h r :=
  ip_pure (fun _ _ _ _ _ _ _ _ _ _ _ _ _ _ _ C _ _ hL kk => lv_ior C.1 C.2.1 hd (kk _ hL)) k
theorem ip_ixor {x y : Int32} (hd : decode M.2.1 pc = .ok (.ixor, 1)) (k : ip_Rn l G M d (pc + 1) L (.int (x ^^^ y) :: st) h r) : ip_Rn l G M d pc L (.int y :: .int x :: st) h r :=
  ip_pure (fun _ _ _ _ _ _ _ _ _ _ _ _ _ _ _ C _ _ hL kk => lv_ixor C.1 C.2.1 hd (kk _ hL)) k
theorem ip_idiv {x y : Int32} (hd : decode M.2.1 pc = .ok (.idiv, 1)) (hne : ¬ y = 0) (k : ip_Rn l G M d (pc + 1) L (.int (x / y) :: st) h r) : ip_Rn l G M d pc L (.int y :: .int x :: st) h r :=
  ip_pure (fun _ _ _ _ _ _ _ _ _ _ _ _ _ _ _ C _ _ hL kk => lv_idiv C.1 C.2.1 hd hne (kk _ hL)) k
theorem ip_irem {x y : Int32} (hd : decode M.2.1 pc = .ok (.irem, 1)) (hne : ¬ y = 0) (k : ip_Rn l G M d (pc + 1) L (.int (x - x / y * y) :: st) h r) : ip_Rn l G M d pc L (.int y :: .int x :: st) h r :=
  ip_pure (fun _ _ _ _ _ _ _ _ _ _ _ _ _ _ _ C _ _ hL kk => lv_irem C.1 C.2.1 hd hne (kk _ hL)) k
theorem ip_ineg {x : Int32} (hd : decode M.2.1 pc = .ok (.ineg, 1)) (k : ip_Rn l G M d (pc + 1) L (.int (-x) :: st) h r) : ip_Rn l G M d pc L (.int x :: st) h r :=
  ip_pure (fun _ _ _ _ _ _ _ _ _ _ _ _ _ _ _ C _ _ hL kk => lv_ineg C.1 C.2.1 hd (kk _ hL)) k
theorem ip_ishl {x y : Int32} (hd : decode M.2.1 pc = .ok (.ishl, 1)) (k : ip_Rn l G M d (pc + 1) L (.int (x <<< (y &&& 31)) :: st) h r) : ip_Rn l G M d pc L (.int y :: .int x :: st) h r :=
  ip_pure (fun _ _ _ _ _ _ _ _ _ _ _ _ _ _ _ C _ _ hL kk => lv_ishl C.1 C.2.1 hd (kk _ hL)) k
theorem ip_ishr {x y : Int32} (hd : decode M.2.1 pc = .ok (.ishr, 1)) (k : ip_Rn l G M d (pc + 1) L (.int (x >>> (y &&& 31)) :: st) h r) : ip_Rn l G M d pc L (.int y :: .int x :: st) h r :=
  ip_pure (fun _ _ _ _ _ _ _ _ _ _ _ _ _ _ _ C _ _ hL kk => lv_ishr C.1 C.2.1 hd (kk _ hL)) k
theorem ip_iushr {x y v : Int32} (hd : decode M.2.1 pc = .ok (.iushr, 1)) (hv : (x.toUInt32 >>> (y.toUInt32 &&& Int32.toUInt32 31)).toInt32 = v) (k : ip_Rn l G M d (pc + 1) L (.int v :: st) h r) : ip_Rn l G M d pc L (.int y :: .int x :: st) h r :=
  ip_pure (fun _ _ _ _ _ _ _ _ _ _ _ _ _ _ _ C _ _ hL kk => lv_iushr C.1 C.2.1 hd hv (kk _ hL)) k
theorem ip_ladd {x y : Int64} (hd : decode M.2.1 pc = .ok (.ladd, 1)) (k : ip_Rn l G M d (pc + 1) L (.long (x + y) :: st) h r) : ip_Rn l G M d pc L (.long y :: .long x :: st) h r :=
  ip_pure (fun _ _ _ _ _ _ _ _ _ _ _ _ _ _ _ C _ _ hL kk => lv_ladd C.1 C.2.1 hd (kk _ hL)) k
theorem ip_lsub {x y : Int64} (hd : decode M.2.1 pc = .ok (.lsub, 1)) (k : ip_Rn l G M d (pc + 1) L (.long (x - y) :: st) h r) : ip_Rn l G M d pc L (.long y :: .long x :: st) h r :=
  ip_pure (fun _ _ _ _ _ _ _ _ _ _ _ _ _ _ _ C _ _ hL kk => lv_lsub C.1 C.2.1 hd (kk _ hL)) k
theorem ip_lmul {x y : Int64} (hd : decode M.2.1 pc = .ok (.lmul, 1)) (k : ip_Rn l G M d (pc + 1) L (.long (x * y) :: st) h r) : ip_Rn l G M d pc L (.long y :: .long x :: st) h r :=
  ip_pure (fun _ _ _ _ _ _ _ _ _ _ _ _ _ _ _ C _ _ hL kk => lv_lmul C.1 C.2.1 hd (kk _ hL)) k
theorem ip_land {x y : Int64} (hd : decode M.2.1 pc = .ok (.land, 1)) (k : ip_Rn l G M d (pc + 1) L (.long (x &&& y) :: st) h r) : ip_Rn l G M d pc L (.long y :: .long x :: st) h r :=
  ip_pure (fun _ _ _ _ _ _ _ _ _ _ _ _ _ _ _ C _ _ hL kk => lv_land C.1 C.2.1 hd (kk _ hL)) k
theorem ip_lor {x y : Int64} (hd : decode M.2.1 pc = .ok (.lor, 1)) (k : ip_Rn l G M d (pc + 1) L (.long (x ||| y) :: st) h r) : ip_Rn l G M d pc L (.long y :: .long x :: st) h r :=
  ip_pure (fun _ _ _ _ _ _ _ _ _ _ _ _ _ _ _ C _ _ hL kk => lv_lor C.1 C.2.1 hd (kk _ hL)) k
theorem ip_lxor {x y : Int64} (hd : decode M.2.1 pc = .ok (.lxor, 1)) (k : ip_Rn l G M d (pc + 1) L (.long (x ^^^ y) :: st) h r) : ip_Rn l G M d pc L (.long y :: .long x :: st) h r :=
  ip_pure (fun _ _ _ _ _ _ _ _ _ _ _ _ _ _ _ C _ _ hL kk => lv_lxor C.1 C.2.1 hd (kk _ hL)) k
theorem ip_ldiv {x y : Int64} (hd : decode M.2.1 pc = .ok (.ldiv, 1)) (hne : ¬ y = 0) (k : ip_Rn l G M d (pc + 1) L (.long (x / y) :: st) h r) : ip_Rn l G M d pc L (.long y :: .long x :: st) h r :=
  ip_pure (fun _ _ _ _ _ _ _ _ _ _ _ _ _ _ _ C _ _ hL kk => lv_ldiv C.1 C.2.1 hd hne (kk _ hL)) k
theorem ip_lrem {x y : Int64} (hd : decode M.2.1 pc = .ok (.lrem, 1)) (hne : ¬ y = 0) (k : ip_Rn l G M d (pc + 1) L (.long (x - x / y * y) :: st) h r) : ip_Rn l G M d pc L (.long y :: .long x :: st) h r :=
  ip_pure (fun _ _ _ _ _ _ _ _ _ _ _ _ _ _ _ C _ _ hL kk => lv_lrem C.1 C.2.1 hd hne (kk _ hL)) k
theorem ip_lneg {x : Int64} (hd : decode M.2.1 pc = .ok (.lneg, 1)) (k : ip_Rn l G M d (pc + 1) L (.long (-x) :: st) h r) : ip_Rn l G M d pc L (.long x :: st) h r :=
  ip_pure (fun _ _ _ _ _ _ _ _ _ _ _ _ _ _ _ C _ _ hL kk => lv_lneg C.1 C.2.1 hd (kk _ hL)) k
theorem ip_lshl {x : Int64} {y : Int32} (hd : decode M.2.1 pc = .ok (.lshl, 1)) (k : ip_Rn l G M d (pc + 1) L (.long (x <<< (y.toInt64 &&& 63)) :: st) h r) : ip_Rn l G M d pc L (.int y :: .long x :: st) h r :=
  ip_pure (fun _ _ _ _ _ _ _ _ _ _ _ _ _ _ _ C _ _ hL kk => lv_lshl C.1 C.2.1 hd rfl (kk _ hL)) k
theorem ip_lshr {x : Int64} {y : Int32} (hd : decode M.2.1 pc = .ok (.lshr, 1)) (k : ip_Rn l G M d (pc + 1) L (.long (x >>> (y.toInt64 &&& 63)) :: st) h r) : ip_Rn l G M d pc L (.int y :: .long x :: st) h r :=
  ip_pure (fun _ _ _ _ _ _ _ _ _ _ _ _ _ _ _ C _ _ hL kk => lv_lshr C.1 C.2.1 hd rfl (kk _ hL)) k
theorem ip_lushr {x : Int64} {y : Int32} (hd : decode M.2.1 pc = .ok (.lushr, 1)) (k : ip_Rn l G M d (pc + 1) L (.long (x.toUInt64 >>> (y.toInt64.toUInt64 &&& Int64.toUInt64 63)).toInt64 :: st) h r) : ip_Rn l G M d pc L (.int y :: .long x :: st) h r :=
  ip_pure (fun _ _ _ _ _ _ _ _ _ _ _ _ _ _ _ C _ _ hL kk => lv_lushr C.1 C.2.1 hd rfl (kk _ hL)) k
theorem ip_lcmp {x y : Int64} (hd : decode M.2.1 pc = .ok (.lcmp, 1)) (k : ip_Rn l G M d (pc + 1) L (.int (lg_cmp x y) :: st) h r) : ip_Rn l G M d pc L (.long y :: .long x :: st) h r :=
  ip_pure (fun _ _ _ _ _ _ _ _ _ _ _ _ _ _ _ C _ _ hL kk => W.lcmp C.1 C.2.1 hd (kk _ hL)) k
theorem ip_i2l {x : Int32} (hd : decode M.2.1 pc = .ok (.i2l, 1)) (k : ip_Rn l G M d (pc + 1) L (.long x.toInt64 :: st) h r) : ip_Rn l G M d pc L (.int x :: st) h r :=
  ip_pure (fun _ _ _ _ _ _ _ _ _ _ _ _ _ _ _ C _ _ hL kk => lv_i2l C.1 C.2.1 hd rfl (kk _ hL)) k
theorem ip_l2i {x : Int64} (hd : decode M.2.1 pc = .ok (.l2i, 1)) (k : ip_Rn l G M d (pc + 1) L (.int x.toInt32 :: st) h r) : ip_Rn l G M d pc L (.long x :: st) h r :=
  ip_pure (fun _ _ _ _ _ _ _ _ _ _ _ _ _ _ _ C _ _ hL kk => lv_l2i C.1 C.2.1 hd rfl (kk _ hL)) k
theorem ip_i2b {x : Int32} (hd : decode M.2.1 pc = .ok (.i2b, 1)) (k : ip_Rn l G M d (pc + 1) L (.int x.toInt8.toInt32 :: st) h r) : ip_Rn l G M d pc L (.int x :: st) h r :=
  ip_pure (fun _ _ _ _ _ _ _ _ _ _ _ _ _ _ _ C _ _ hL kk => lv_i2b C.1 C.2.1 hd rfl (kk _ hL)) k
theorem ip_i2c {x : Int32} (hd : decode M.2.1 pc = .ok (.i2c, 1)) (k : ip_Rn l G M d (pc + 1) L (.int (x.toUInt32 % 65536).toInt32 :: st) h r) : ip_Rn l G M d pc L (.int x :: st) h r :=
  ip_pure (fun _ _ _ _ _ _ _ _ _ _ _ _ _ _ _ C _ _ hL kk => lv_i2c C.1 C.2.1 hd rfl (kk _ hL)) k
theorem ip_dup {v : Value} (hd : decode M.2.1 pc = .ok (.dup, 1)) (hc : v.category = 1) (k : ip_Rn l G M d (pc + 1) L (v :: v :: st) h r) : ip_Rn l G M d pc L (v :: st) h r :=
  ip_pure (fun _ _ _ _ _ _ _ _ _ _ _ _ _ _ _ C _ _ hL kk => lv_dup C.1 C.2.1 hd ((ip_v_cat G v).trans hc) (kk _ hL)) k
theorem ip_pop {v : Value} (hd : decode M.2.1 pc = .ok (.pop, 1)) (hc : v.category = 1) (k : ip_Rn l G M d (pc + 1) L st h r) : ip_Rn l G M d pc L (v :: st) h r :=
  ip_pure (fun _ _ _ _ _ _ _ _ _ _ _ _ _ _ _ C _ _ hL kk => lv_pop C.1 C.2.1 hd ((ip_v_cat G v).trans hc) (kk _ hL)) k
theorem ip_dup_x1 {v w : Value} (hd : decode M.2.1 pc = .ok (.dup_x1, 1)) (hc : v.category = 1) (hc2 : w.category = 1) (k : ip_Rn l G M d (pc + 1) L (v :: w :: v :: st) h r) : ip_Rn l G M d pc L (v :: w :: st) h r :=
  ip_pure (fun _ _ _ _ _ _ _ _ _ _ _ _ _ _ _ C _ _ hL kk => lv_dup_x1 C.1 C.2.1 hd ((ip_v_cat G v).trans hc) ((ip_v_cat G w).trans hc2) (kk _ hL)) k
theorem ip_dup2_11 {v w : Value} (hd : decode M.2.1 pc = .ok (.dup2, 1)) (hc : v.category = 1) (hc2 : w.category = 1) (k : ip_Rn l G M d (pc + 1) L (v :: w :: v :: w :: st) h r) : ip_Rn l G M d pc L (v :: w :: st) h r :=
  ip_pure (fun _ _ _ _ _ _ _ _ _ _ _ _ _ _ _ C _ _ hL kk => lv_dup2_11 C.1 C.2.1 hd ((ip_v_cat G v).trans hc) ((ip_v_cat G w).trans hc2) (kk _ hL)) k
theorem ip_dup2_2 {v : Value} (hd : decode M.2.1 pc = .ok (.dup2, 1)) (hc : v.category = 2) (k : ip_Rn l G M d (pc + 1) L (v :: v :: st) h r) : ip_Rn l G M d pc L (v :: st) h r :=
  ip_pure (fun _ _ _ _ _ _ _ _ _ _ _ _ _ _ _ C _ _ hL kk => lv_dup2_2 C.1 C.2.1 hd ((ip_v_cat G v).trans hc) (kk _ hL)) k
theorem ip_goto {off : Int} {tgt : Nat} (hd : decode M.2.1 pc = .ok (.goto off, 3)) (ht : (pc : Int) + off = (tgt : Int)) (k : ip_Rn l G M d tgt L st h r) : ip_Rn l G M d pc L st h r :=
  ip_pure (fun _ _ _ _ _ _ _ _ _ _ _ _ _ _ _ C _ _ hL kk => lv_goto C.1 C.2.1 hd ht (kk _ hL)) k
end IPP
