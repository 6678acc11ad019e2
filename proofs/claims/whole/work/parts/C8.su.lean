/-! a sum, bit by bit -/
def sumP (X Y : Nat → Int32) : Nat → Nat → Int32 → CP (List Int32)
  | 0, _, _ => cRet []
  | 1, i, c => cOp false (Y i) c fun t => cOp false (X i) t fun o => cRet [o]
  | k + 2, i, c => cOp false (Y i) c fun t => cOp false (X i) t fun o => cOp false (X i) c fun u => cOp true u t fun v => cOp false c v fun c' => cBind (sumP X Y (k + 1) (i + 1) c') fun os => cRet (o :: os)
section SUM
variable {l : Launch} {Gr : zG} {n w : Nat} {d : Nat} {S A T B : zS} {c : Int32} {X Y : Nat → Int32} {Q : Option Value → zS → Prop} {a b m : Nat}
theorem sumP_2 {k i : Nat} : sumP X Y (k + 2) i c = cOp false (Y i) c fun t => cOp false (X i) t fun o => cOp false (X i) c fun u => cOp true u t fun v => cOp false c v fun c' => cBind (sumP X Y (k + 1) (i + 1) c') fun os => cRet (o :: os) := rfl
theorem BU_sum : ∀ (k i : Nat) (c : Int32), BU (sumP X Y k i c)
  | 0, _, _ => BU_ret
  | 1, _, _ => BU_op (fun _ => BU_op (fun _ => BU_ret))
  | k + 2, i, c => BU_op (fun _ => BU_op (fun _ => BU_op (fun _ => BU_op (fun _ => BU_op (fun c' => BU_bind (BU_sum (k + 1) (i + 1) c') (fun _ => BU_ret))))))
/-- all of a list's literals are there -/
def VLs (T : zS) (os : List Int32) : Prop := ∀ j, VC T (os.getD j (-2))
theorem VLs_nil : VLs T [] := fun _ => VC_c2
theorem VLs_cons {o : Int32} {os : List Int32} (h : VC T o) (hs : VLs T os) : VLs T (o :: os)
  | 0 => h
  | j + 1 => hs j
theorem VLs_m {T' : zS} {os : List Int32} (h : MOK T T') (hs : VLs T os) : VLs T' os := fun j => VC_m h (hs j)
theorem W_sum : ∀ (k i : Nat) (c : Int32) (T : zS), (∀ j, VC T (X j)) → (∀ j, VC T (Y j)) → VC T c → mWF VLs (sumP X Y k i c) T
  | 0, _, _, _, _, _, _ => mWF_ret VLs_nil
  | 1, i, c, T, hX, hY, hc => mWF_op (fun _ => BU_op (fun _ => BU_ret)) (hY i) hc (fun T1 t m1 ht => mWF_op (fun _ => BU_ret) (VC_m m1 (hX i)) ht (fun T2 o m2 ho => mWF_ret (VLs_cons ho VLs_nil)))
  | k + 2, i, c, T, hX, hY, hc => mWF_op (fun _ => BU_op (fun _ => BU_op (fun _ => BU_op (fun _ => BU_op (fun c' => BU_bind (BU_sum (k + 1) (i + 1) c') (fun _ => BU_ret)))))) (hY i) hc (fun T1 t m1 ht =>
      mWF_op (fun _ => BU_op (fun _ => BU_op (fun _ => BU_op (fun c' => BU_bind (BU_sum (k + 1) (i + 1) c') (fun _ => BU_ret))))) (VC_m m1 (hX i)) ht (fun T2 o m2 ho =>
      mWF_op (fun _ => BU_op (fun _ => BU_op (fun c' => BU_bind (BU_sum (k + 1) (i + 1) c') (fun _ => BU_ret)))) (VC_m m2 (VC_m m1 (hX i))) (VC_m m2 (VC_m m1 hc)) (fun T3 u m3 hu =>
      mWF_op (fun _ => BU_op (fun c' => BU_bind (BU_sum (k + 1) (i + 1) c') (fun _ => BU_ret))) hu (VC_m m3 (VC_m m2 ht)) (fun T4 v m4 hv =>
      mWF_op (fun c' => BU_bind (BU_sum (k + 1) (i + 1) c') (fun _ => BU_ret)) (VC_m m4 (VC_m m3 (VC_m m2 (VC_m m1 hc)))) hv (fun T5 c' m5 hc' => by
        have mm := MOK_tr m1 (MOK_tr m2 (MOK_tr m3 (MOK_tr m4 m5)))
        have := W_sum (k + 1) (i + 1) c' T5 (fun j => VC_m mm (hX j)) (fun j => VC_m mm (hY j)) hc'
        refine mWF_bind (fun _ => BU_ret) ?_
        have ho' := VC_m m5 (VC_m m4 (VC_m m3 ho))
        refine wf_keep this (fun T6 os m6 h6 => mWF_ret (VLs_cons (VC_m m6 ho') h6)))))))
