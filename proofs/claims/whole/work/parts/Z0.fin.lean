set_option maxRecDepth 100000 in
theorem z_t (n w : Nat) (S : zS) : (zP (zc n w) 168 S).map ip_z = [17, 20, 4000, 7, 4000, 4000, 4000, 4000, 13, 800, 800, 800, 800, 800, 800, 800, 800, 8, 256, 256, 256, 256, 256, n, 15, 40000, 40000, 40000, 40000, 40000, 2003, 445, (444 * w), (256 * w + 40000), 11, 310, 310, 310, 5, 11, 372, 31, 31, 31, 31, 19, 285, 285, 800, 800, 7, w, w, w, (w + 1), w, w, (9682 * w), (256 * w), 9, 2000, 40000, 40000, 40000, (256 * w + 40000), 15, n, n, n, n, n, (2 * n * (n - 1)), (n * ((n - 1) * 2002)), 146, 20, 4000, 2000, 2000, 12000, 12000, 12000, 12000, 12000, 4100, 4100, 4100, 4100, 70, 70, 12000, 2500, 2500, 2500, 2500, 2500, 2500, 2500, 2500, 4200, 4200, 4200, 70, 12000, 12000, 12000, 12000, 12000, 12000, 400, 400, 1000, 40000, 40000, 40000, 40000, 256, 256, 256, 256, 256, 500, 16000, 134400, 40, 40, 40, 40, 40, 40, 40, 40, 80, 8192, 300, 300, 300, 40, 40, 40, 327680, 327680, 12000, 12000, 12000, 400, 400, 40, 4200, 256, 500, 2000, 48192, 40000, 40000, 40000, 2003, 40000, 16, 16, 16, 16, 16, 481000, 481000, 1000, 1000, 1000, 16] := rfl
def zle : List Nat → List Nat → Prop
  | [], [] => True
  | a :: l, b :: m => a ≤ b ∧ zle l m
  | _, _ => False
theorem zle_sum : ∀ {l m : List Nat}, zle l m → l.sum ≤ m.sum
  | [], [], _ => Nat.le_refl _
  | a :: l, b :: m, h => by
    rw [List.sum_cons, List.sum_cons]
    exact Nat.add_le_add h.1 (zle_sum h.2)
  | [], b :: m, h => h.elim
  | a :: l, [], h => h.elim
def z_top : List Nat := [17, 20, 4000, 7, 4000, 4000, 4000, 4000, 13, 800, 800, 800, 800, 800, 800, 800, 800, 8, 256, 256, 256, 256, 256, 16, 15, 40000, 40000, 40000, 40000, 40000, 2003, 445, (444 * 32), (256 * 32 + 40000), 11, 310, 310, 310, 5, 11, 372, 31, 31, 31, 31, 19, 285, 285, 800, 800, 7, 32, 32, 32, (32 + 1), 32, 32, (9682 * 32), (256 * 32), 9, 2000, 40000, 40000, 40000, (256 * 32 + 40000), 15, 16, 16, 16, 16, 16, (2 * 16 * (16 - 1)), (16 * ((16 - 1) * 2002)), 146, 20, 4000, 2000, 2000, 12000, 12000, 12000, 12000, 12000, 4100, 4100, 4100, 4100, 70, 70, 12000, 2500, 2500, 2500, 2500, 2500, 2500, 2500, 2500, 4200, 4200, 4200, 70, 12000, 12000, 12000, 12000, 12000, 12000, 400, 400, 1000, 40000, 40000, 40000, 40000, 256, 256, 256, 256, 256, 500, 16000, 134400, 40, 40, 40, 40, 40, 40, 40, 40, 80, 8192, 300, 300, 300, 40, 40, 40, 327680, 327680, 12000, 12000, 12000, 400, 400, 40, 4200, 256, 500, 2000, 48192, 40000, 40000, 40000, 2003, 40000, 16, 16, 16, 16, 16, 481000, 481000, 1000, 1000, 1000, 16]
set_option maxRecDepth 100000 in
theorem z_room {n w : Nat} (hn : 2 ≤ n ∧ n ≤ 16) (hw : 1 ≤ w ∧ w ≤ 32) (S : zS) : ip_t (zP (zc n w) 168 S) ≤ 7696666 := by
  unfold ip_t
  rw [z_t]
  have h1 : 2 * n * (n - 1) ≤ 2 * 16 * (16 - 1) := Nat.mul_le_mul (by omega) (by omega)
  have h2 : n * ((n - 1) * 2002) ≤ 16 * ((16 - 1) * 2002) := Nat.mul_le_mul (by omega) (Nat.mul_le_mul (by omega) (by omega))
  refine Nat.le_trans (zle_sum (m := z_top) (And.intro (Nat.le_refl _) (And.intro (Nat.le_refl _) (And.intro (Nat.le_refl _) (And.intro (Nat.le_refl _) (And.intro (Nat.le_refl _) (And.intro (Nat.le_refl _) (And.intro (Nat.le_refl _) (And.intro (Nat.le_refl _) (And.intro (Nat.le_refl _) (And.intro (Nat.le_refl _) (And.intro (Nat.le_refl _) (And.intro (Nat.le_refl _) (And.intro (Nat.le_refl _) (And.intro (Nat.le_refl _) (And.intro (Nat.le_refl _) (And.intro (Nat.le_refl _) (And.intro (Nat.le_refl _) (And.intro (Nat.le_refl _) (And.intro (Nat.le_refl _) (And.intro (Nat.le_refl _) (And.intro (Nat.le_refl _) (And.intro (Nat.le_refl _) (And.intro (Nat.le_refl _) (And.intro (by omega) (And.intro (Nat.le_refl _) (And.intro (Nat.le_refl _) (And.intro (Nat.le_refl _) (And.intro (Nat.le_refl _) (And.intro (Nat.le_refl _) (And.intro (Nat.le_refl _) (And.intro (Nat.le_refl _) (And.intro (Nat.le_refl _) (And.intro (by omega) (And.intro (by omega) (And.intro (Nat.le_refl _) (And.intro (Nat.le_refl _) (And.intro (Nat.le_refl _) (And.intro (Nat.le_refl _) (And.intro (Nat.le_refl _) (And.intro (Nat.le_refl _) (And.intro (Nat.le_refl _) (And.intro (Nat.le_refl _) (And.intro (Nat.le_refl _) (And.intro (Nat.le_refl _) (And.intro (Nat.le_refl _) (And.intro (Nat.le_refl _) (And.intro (Nat.le_refl _) (And.intro (Nat.le_refl _) (And.intro (Nat.le_refl _) (And.intro (Nat.le_refl _) (And.intro (Nat.le_refl _) (And.intro (by omega) (And.intro (by omega) (And.intro (by omega) (And.intro (by omega) (And.intro (by omega) (And.intro (by omega) (And.intro (by omega) (And.intro (by omega) (And.intro (Nat.le_refl _) (And.intro (Nat.le_refl _) (And.intro (Nat.le_refl _) (And.intro (Nat.le_refl _) (And.intro (Nat.le_refl _) (And.intro (by omega) (And.intro (Nat.le_refl _) (And.intro (by omega) (And.intro (by omega) (And.intro (by omega) (And.intro (by omega) (And.intro (by omega) (And.intro h1 (And.intro h2 (And.intro (Nat.le_refl _) (And.intro (Nat.le_refl _) (And.intro (Nat.le_refl _) (And.intro (Nat.le_refl _) (And.intro (Nat.le_refl _) (And.intro (Nat.le_refl _) (And.intro (Nat.le_refl _) (And.intro (Nat.le_refl _) (And.intro (Nat.le_refl _) (And.intro (Nat.le_refl _) (And.intro (Nat.le_refl _) (And.intro (Nat.le_refl _) (And.intro (Nat.le_refl _) (And.intro (Nat.le_refl _) (And.intro (Nat.le_refl _) (And.intro (Nat.le_refl _) (And.intro (Nat.le_refl _) (And.intro (Nat.le_refl _) (And.intro (Nat.le_refl _) (And.intro (Nat.le_refl _) (And.intro (Nat.le_refl _) (And.intro (Nat.le_refl _) (And.intro (Nat.le_refl _) (And.intro (Nat.le_refl _) (And.intro (Nat.le_refl _) (And.intro (Nat.le_refl _) (And.intro (Nat.le_refl _) (And.intro (Nat.le_refl _) (And.intro (Nat.le_refl _) (And.intro (Nat.le_refl _) (And.intro (Nat.le_refl _) (And.intro (Nat.le_refl _) (And.intro (Nat.le_refl _) (And.intro (Nat.le_refl _) (And.intro (Nat.le_refl _) (And.intro (Nat.le_refl _) (And.intro (Nat.le_refl _) (And.intro (Nat.le_refl _) (And.intro (Nat.le_refl _) (And.intro (Nat.le_refl _) (And.intro (Nat.le_refl _) (And.intro (Nat.le_refl _) (And.intro (Nat.le_refl _) (And.intro (Nat.le_refl _) (And.intro (Nat.le_refl _) (And.intro (Nat.le_refl _) (And.intro (Nat.le_refl _) (And.intro (Nat.le_refl _) (And.intro (Nat.le_refl _) (And.intro (Nat.le_refl _) (And.intro (Nat.le_refl _) (And.intro (Nat.le_refl _) (And.intro (Nat.le_refl _) (And.intro (Nat.le_refl _) (And.intro (Nat.le_refl _) (And.intro (Nat.le_refl _) (And.intro (Nat.le_refl _) (And.intro (Nat.le_refl _) (And.intro (Nat.le_refl _) (And.intro (Nat.le_refl _) (And.intro (Nat.le_refl _) (And.intro (Nat.le_refl _) (And.intro (Nat.le_refl _) (And.intro (Nat.le_refl _) (And.intro (Nat.le_refl _) (And.intro (Nat.le_refl _) (And.intro (Nat.le_refl _) (And.intro (Nat.le_refl _) (And.intro (Nat.le_refl _) (And.intro (Nat.le_refl _) (And.intro (Nat.le_refl _) (And.intro (Nat.le_refl _) (And.intro (Nat.le_refl _) (And.intro (Nat.le_refl _) (And.intro (Nat.le_refl _) (And.intro (Nat.le_refl _) (And.intro (Nat.le_refl _) (And.intro (Nat.le_refl _) (And.intro (Nat.le_refl _) (And.intro (Nat.le_refl _) (And.intro (Nat.le_refl _) (And.intro (Nat.le_refl _) (And.intro (Nat.le_refl _) (And.intro (Nat.le_refl _) (And.intro (Nat.le_refl _) (And.intro (Nat.le_refl _) (And.intro (Nat.le_refl _) (And.intro (Nat.le_refl _) (And.intro (Nat.le_refl _) (And.intro (Nat.le_refl _) (And.intro (Nat.le_refl _) (And.intro (Nat.le_refl _) (And.intro (Nat.le_refl _) (And.intro (Nat.le_refl _) (And.intro (Nat.le_refl _) trivial))))))))))))))))))))))))))))))))))))))))))))))))))))))))))))))))))))))))))))))))))))))))))))))))))))))))))))))))))))))))))))))))))))))))))))))))))))))))))))))))))))))))) ?_
  decide +kernel
theorem z_len (n w : Nat) (S : zS) : (zP (zc n w) 168 S).length = 168 := by unfold zP; rw [List.length_map, List.length_range]
theorem z_a0 (n w : Nat) (S : zS) : ∃ fs, ip_h (zP (zc n w) 168 S) 32 = some (.inr (11, fs)) := ⟨_, z_h (c := 0) (by decide)⟩
theorem z_m0 (n w : Nat) (S : zS) : ∃ fs, ip_h (zP (zc n w) 168 S) 105 = some (.inr (12, fs)) := ⟨_, z_h (c := 73) (by decide)⟩
/-- between the constructors and the first call -/
theorem z0_inv (n w : Nat) : iAl n w z0 ∧ XTr n w z0 := by
  have e : ∀ c k, ¬ (c = 3 ∧ k = 6) → ¬ (c = 59 ∧ k = 4) → ¬ (c = 73 ∧ k = 8) → ¬ (c = 73 ∧ k = 120) → z0.1 c k = 0 := fun c k h1 h2 h3 h4 => by
    show (if c = 3 ∧ k = 6 then (-1 : Int32) else if c = 59 ∧ k = 4 then 1 else if c = 73 ∧ k = 8 then (-1) else if c = 73 ∧ k = 120 then 1 else 0) = 0
    rw [if_neg h1, if_neg h2, if_neg h3, if_neg h4]
  have e' : ∀ c k, ¬ (c = 3 ∨ c = 59 ∨ c = 73) → z0.1 c k = 0 := fun c k h => e c k (by omega) (by omega) (by omega) (by omega)
  refine ⟨⟨⟨0, by omega, e' 0 4 (by omega), e 73 5 (by omega) (by omega) (by omega) (by omega), fun k _ => ?_, fun k hk => absurd hk (Nat.not_lt_zero k)⟩, ⟨0, 0, by omega, by omega, rfl, rfl, rfl, rfl, fun k hk => absurd hk (Nat.not_lt_zero k), rfl⟩, Or.inl ⟨rfl, rfl, rfl, rfl, rfl⟩, Or.inl ⟨rfl, rfl, rfl, rfl⟩, rfl, fun y => absurd rfl y⟩, fun y => absurd y (by decide), fun y => absurd rfl y, fun y => absurd rfl y⟩
  rw [e' 1 k (by omega), e' 74 k (by omega)]
  exact bt_0
/-- YOUR PART: from the entry, for every script of at most 3074 ints, the law comes to its end with true -/
theorem whole_start {p : Program} {e : Env} {s : State} {m : MethodId} {below : List Frame} {meth : Method} {c : Code} (l : Launch) {b L : Nat} {xs : Nat → Int32} (hL : L ≤ 3074) (C0 : lw_At p s m meth c b L xs) : W p l e room_1 s m #[Value.ref b] below meth c s.heap [] 0 0 (lw_Z below #[Value.ref b] s) (entryFrame m ([Value.ref b] : List Value).toArray 4) := by
  refine ip_whole l C0 (299 + 4) (by omega) (fun Gr hG hO hX hb => ?_)
  obtain ⟨n, hn, e0⟩ := cl_ex 2 16 (by omega) (by omega) (if 0 < L then xs 0 else 0)
  obtain ⟨w, hw, e1⟩ := cl_ex 1 32 (by omega) (by omega) (if 1 < L then xs 1 else 0)
  obtain ⟨S', k⟩ := wl_loop (l := l) (n := n) (w := w) (d := 302) hX hb (by omega) (Inv := fun X => iAl n w X ∧ XTr n w X) (fun k j S hk hj e hI => t_all (q := 0) hG hX hb (by omega) hO hn hw (xt_all hG hn hw) (fun S hI => o_comp3 hG hO hn hw S hI) k j S hk hj e hI) 520 2 z0 (by omega) (by omega) (z0_inv n w)
  refine ⟨zP (zc n w) 168 S', by rw [z_len]; omega, z_room hn hw S', ?_⟩
  rw [← z0_pic] at k
  exact lw_prol hG hX hb (by omega) 299 hn hw rfl rfl e0 e1 k
set_option maxHeartbeats 4000000 in
theorem lw_walk (l : Launch) (b : Addr) (xs : List Int32) : MetFree l x (headSpec (Jvm.Cond.code x code maxLocals ret :: tables_1) room_1) (lw_P b xs) (fun _ _ _ _ _ => True) lw_Q := by
  refine MetFree.of_bodyS (code := code) (maxLocals := maxLocals) (ret := ret) (by decide) ?_ ?_
  · intro args s m h hn
    obtain ⟨meth, c, h1, h2, h3, h4, h5, h6, -, -⟩ := Cond.code_spec hn (atoms_spec (ws := Jvm.Cond.code x code maxLocals ret :: tables_1) h _ List.mem_cons_self)
    exact ⟨meth, c, h1, h2, h3, h4, h5, h6⟩
  · intro p e s m args below meth c s₁ B hml0 hP _
    obtain ⟨rfl, hx, hbd, hgv⟩ := hP
    obtain ⟨scr, harrAt, hlist, hof, hsmall⟩ := hx
    obtain ⟨hcb, hkn, -, -⟩ := State.arrayAt?_spec harrAt
    have hown : s.vm.findClass R_law = some m.cls := findClass_of_methodNamed B.named
    have hts0 : ∀ c ∈ (Jvm.Cond.code x code maxLocals ret :: tables_1), c.before #[Value.ref b] s = true := atoms_spec (ws := Jvm.Cond.code x code maxLocals ret :: tables_1) B.pre
    have hts : ∀ w ∈ lw_tbl, w.before #[Value.ref b] s = true := k2_hts_sels lw_privs (fun w hw => hts0 w (List.mem_cons_of_mem _ hw)) lw_privs_ok
    have hml : c.maxLocals = 4 := B.maxLocals_eq (hts0 _ List.mem_cons_self)
    have X₀ : Stand p l e room_1 s m #[Value.ref b] below meth c s₁ [] 0 0 := Stand.of_body B
    have hh0 : s₁.heap = s.heap := by rw [B.state]; rfl
    have hsz : scr.slots.size = xs.length := by rw [← Array.length_toList, hlist, List.length_map]
    have hval : ∀ j : Nat, j < xs.length → scr.slots[j]? = some (.int (xs.getD j 0)) := fun j hj => by
      rw [← Array.getElem?_toList, hlist]
      simp [hj]
    have hbl : b < s.heap.size := (Array.getElem?_eq_some_iff.mp hcb).1
    have hX : va_X b xs.length (fun j => xs.getD j 0) s s.heap := ⟨scr, hcb, hof, hkn, hsz, hval⟩
    have K : W p l e room_1 s m #[Value.ref b] below meth c s₁.heap [] 0 0 (lw_Z below #[Value.ref b] s) (entryFrame m ([Value.ref b] : List Value).toArray 4) := by
      rw [hh0]
      exact whole_start l hbd ⟨B.exec, B.bytes, B.returns, hml, hown, hts, hX, hbl, B.notSynchronized, hgv⟩
    obtain ⟨t, a1, o, b1, b2, b3⟩ := K s₁ rfl X₀
    exact ⟨t, o, a1, b1, b2, b3⟩
theorem lw_pre_spec {args : Array Value} {s : State} (h : (Jvm.Cond.and given_1 narrow_1).before args s = true) (hr : rest_1_c.before args s = true) : ∃ (b : Addr) (xs : List Int32), lw_P b xs args s := by
  have hs := flat_of_before _ h
  have hq := flat_of_before _ hr
  have hc : (Cond.count 1).before args s = true := hs _ (by decide +kernel)
  have harr : (Cond.arrayOf (.arg 0) .int).before args s = true := hs _ (by decide +kernel)
  have hle : (Cond.le (.length (.arg 0)) (.int 3074)).before args s = true := hs _ (by decide +kernel)
  have hlen : (Cond.isInt (.length (.arg 0))).before args s = true := hq _ (by decide +kernel)
  have hall : (Cond.all (.arg 0) (.isInt (.elem (.arg 0) (.index 0)))).before args s = true := hq _ (by decide +kernel)
  obtain ⟨b, xs, hb, hx⟩ := State.ints_of_pre rfl harr hlen hall
  have hsm : xs.length < 2 ^ 31 := hx.choose_spec.2.2.2
  have hev : (Term.length (.arg 0)).eval args s none [] s = some (.int xs.length.toInt32) := hx.length_eval hb
  have hv := Cond.le_ints hev (show (Term.int 3074).eval args s none [] s = some (.int 3074) from rfl)
  have hd : xs.length.toInt32 ≤ 3074 := by
    simpa [Cond.before, Cond.holds, hv] using hle
  have hN : xs.length ≤ 3074 := (Int32.ofNat_le_ofNat hsm (by decide)).mp (show Int32.ofNat xs.length ≤ Int32.ofNat 3074 from hd)
  exact ⟨b, xs, Cond.one_arg hc (show args[0]? = some (.ref b) from hb), hx, hN, h⟩
theorem lw_comes (l : Launch) : Comes l x (Jvm.Cond.code x code maxLocals ret :: tables_1) room_1 (fun tb e args s => Calls_1 tb e args s ∧ rest_1 tb e args s ∧ Pre_1 tb e args s)
    (fun _ _ args s o t => lw_Q args s o t) := by
  intro p e ha hc hk s m args below hf hfit hheap happ hpre
  obtain ⟨b, xs, hP⟩ := lw_pre_spec hpre.2.2 hpre.2.1
  obtain ⟨k, o, h1, h2, h3, hQ⟩ := lw_walk l b xs p e ha hc hk s m args below hf ((Spec.applies_iff_loose hf).mp happ).1 hP trivial
  exact ⟨k, o, h1, h2, h3, hQ⟩
theorem lw_frame {s t : State} {o : Outcome} {args : Array Value} (h : Framed s o t [] 468528 7696666) :
    Framed s o t (fieldLocs frame_1_writes args s ++ arrayLocs frame_1_arrays args s ++ staticLocs frame_1_statics s) 468528 7696666 := h
theorem lw_limb (L : Cond) (hL : ∀ (args : Array Value) (s t : State), L.after args s (.returned (some (.int 1))) t = true) :
    ArmFor flags0 classFile x code maxLocals ret World_1 tables_1 room_1 Calls_1 rest_1 Pre_1
      (fun tb e a s o t => postC L tb e a s o t ∧ Framed s o t (fieldLocs frame_1_writes a s ++ arrayLocs frame_1_arrays a s ++ staticLocs frame_1_statics s) 468528 7696666) := by
  intro l _ _ _ p e ha hc hk s m args below hf hfit hheap happ hpre
  obtain ⟨k, o, h1, h2, h3, rfl, hF⟩ := lw_comes l p e ha hc hk s m args below hf hfit hheap happ hpre
  exact ⟨k, _, h1, h2, h3, hL args s _, lw_frame hF⟩
theorem i_vc : Claimed_1_1 ∧ Claimed_1_2 := ⟨lw_limb limb_1_1 (fun args s t => by simp [limb_1_1, Cond.after, Cond.holds, Cond.value]), lw_limb limb_1_2 (fun args s t => Cond.after_iff.mpr (by
  first | (rw [show limb_1_2 = Cond.eq .result (.int 1) from rfl, Cond.eq_ints (x := 1) (y := 1) rfl rfl]; simp; done) | (simp [limb_1_2, Cond.value, Term.eval]; done)))⟩

