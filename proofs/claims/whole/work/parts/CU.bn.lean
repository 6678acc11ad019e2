/-! the binary operators as programs -/
def lf (os : List Int32) (j : Nat) : Int32 := os.getD j (-2)
def b1f (v : Int32) (j : Nat) : Int32 := if j = 0 then v else -2
def binP (w m o : Nat) (X Y : Nat → Int32) : CP (Nat → Int32) :=
  if o = 1 ∨ o = 3 then cBind (bitsP 2 X Y m 0) fun os => cRet (lf os)
  else if o = 2 ∨ o = 5 then cBind (bitsP 1 X Y m 0) fun os => cRet (lf os)
  else if o = 4 then cBind (bitsP 0 X Y m 0) fun os => cRet (lf os)
  else if o = 6 ∨ o = 7 then cBind (eqP X Y m) fun v => cRet (b1f (v ^^^ (if o = 7 then 1 else 0)))
  else if o = 8 ∨ o = 11 then cBind (lessP (flp w X) (flp w Y) w 0 (-1)) fun v => cRet (b1f (v ^^^ (if o = 11 then 1 else 0)))
  else if o = 9 ∨ o = 10 then cBind (lessP (flp w Y) (flp w X) w 0 (-1)) fun v => cRet (b1f (v ^^^ (if o = 9 then 1 else 0)))
  else if o = 14 then cBind (sumP X Y w 0 (-2)) fun os => cRet (lf os)
  else if o = 15 then cBind (sumP X (fun j => Y j ^^^ 1) w 0 (-1)) fun os => cRet (lf os)
  else if o = 16 then timesP X Y w
  else cBind (divideP X Y w) fun r => cRet (if o = 17 then r.1 else r.2)
section BNP
variable {T : zS} {X Y : Nat → Int32} {w m o : Nat} {v : Int32}
theorem BU_bin : BU (binP w m o X Y) := by
  unfold binP
  split
  · exact BU_bind (BU_bits _ _) (fun _ => BU_ret)
  · skip
    split
    · exact BU_bind (BU_bits _ _) (fun _ => BU_ret)
    · skip
      split
      · exact BU_bind (BU_bits _ _) (fun _ => BU_ret)
      · skip
        split
        · exact BU_bind BU_eq (fun _ => BU_ret)
        · skip
          split
          · exact BU_bind (BU_less _ _ _) (fun _ => BU_ret)
          · skip
            split
            · exact BU_bind (BU_less _ _ _) (fun _ => BU_ret)
            · skip
              split
              · exact BU_bind (BU_sum _ _ _) (fun _ => BU_ret)
              · skip
                split
                · exact BU_bind (BU_sum _ _ _) (fun _ => BU_ret)
                · skip
                  split
                  · exact BU_times
                  · exact BU_bind BU_divide (fun _ => BU_ret)
theorem VC_b1 {b : Prop} [Decidable b] (h : VC T v) : VFs T (b1f (v ^^^ (if b then 1 else 0))) := fun j => by
  unfold b1f
  split
  · split
    · exact VC_f h
    · rw [Int32.xor_zero]
      exact h
  · exact VC_c2
theorem W_bin (hX : ∀ j, VC T (X j)) (hY : ∀ j, VC T (Y j)) : mWF VFs (binP w m o X Y) T := by
  unfold binP
  split
  · exact mWF_seq (fun _ => BU_ret) (W_bits _ _ T hX hY) (fun _ _ _ h => mWF_ret h)
  · skip
    split
    · exact mWF_seq (fun _ => BU_ret) (W_bits _ _ T hX hY) (fun _ _ _ h => mWF_ret h)
    · skip
      split
      · exact mWF_seq (fun _ => BU_ret) (W_bits _ _ T hX hY) (fun _ _ _ h => mWF_ret h)
      · skip
        split
        · exact mWF_seq (fun _ => BU_ret) (W_eq hX hY) (fun _ _ _ h => mWF_ret (VC_b1 h))
        · skip
          split
          · exact mWF_seq (fun _ => BU_ret) (W_less _ _ _ T (VC_flp hX) (VC_flp hY) VC_c1) (fun _ _ _ h => mWF_ret (VC_b1 h))
          · skip
            split
            · exact mWF_seq (fun _ => BU_ret) (W_less _ _ _ T (VC_flp hY) (VC_flp hX) VC_c1) (fun _ _ _ h => mWF_ret (VC_b1 h))
            · skip
              split
              · exact mWF_seq (fun _ => BU_ret) (W_sum _ _ _ T hX hY VC_c2) (fun _ _ _ h => mWF_ret h)
              · skip
                split
                · exact mWF_seq (fun _ => BU_ret) (W_sum _ _ _ T hX (fun j => VC_f (hY j)) VC_c1) (fun _ _ _ h => mWF_ret h)
                · skip
                  split
                  · exact W_times hX hY
                  · refine mWF_seq (fun _ => BU_ret) (W_divide hX hY) (fun _ r _ h => mWF_ret ?_)
                    split
                    · exact h.1
                    · exact h.2
end BNP
