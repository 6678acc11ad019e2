/-! if: one program over the cells; a MUX of the same literal twice makes nothing -/
def dmxP (e : Int32) (V L : Nat → Int32) : Nat → Nat → (Nat → Int32) → CP (Nat → Int32)
  | 0, _, R => cRet R
  | c + 1, k, R => if V k = L k then dmxP e V L c (k + 1) R else cBind (muxP e (V k) (L k)) fun o => dmxP e V L c (k + 1) (fun k' => if k' = k then o else R k')
section DMX
variable {l : Launch} {Gr : zG} {n w : Nat} {d : Nat} {S A A0 T B B0 : zS} {e x y : Int32} {V L R : Nat → Int32} {Q : Option Value → zS → Prop} {a b m i o r v q j z c k u s g t : Nat}
theorem kX_s (h : CNl x) : kXor S x x = (-2, S) := by
  unfold kXor
  by_cases z : 0 ≤ x
  · rw [if_neg (by simpa using z), if_neg (by simpa using z), if_pos rfl, show x ^^^ x = 0 from by simp]
    rfl
  · rw [if_pos z]
    rcases h z with y | y
    · rw [y]; rfl
    · rw [y]; rfl
theorem mX_s (h : CNl x) : mXor T x x = (-2, T) := by
  unfold mXor
  by_cases z : 0 ≤ x
  · rw [if_neg (by simpa using z), if_neg (by simpa using z), if_pos rfl, show x ^^^ x = 0 from by simp]
    rfl
  · rw [if_pos z]
    rcases h z with y | y
    · rw [y]; rfl
    · rw [y]; rfl
theorem kA_z : kAnd S e (-2) = (-2, S) := by
  unfold kAnd
  by_cases z : 0 ≤ e
  · rw [if_neg (by simpa using z), if_pos (by decide), if_neg (by decide)]
  · rw [if_pos z]
    split <;> rfl
theorem mA_z : mAnd T e (-2) = (-2, T) := by
  unfold mAnd
  by_cases z : 0 ≤ e
  · rw [if_neg (by simpa using z), if_pos (by decide), if_neg (by decide)]
  · rw [if_pos z]
    split <;> rfl
theorem kX_z (h : CNl x) : kXor S x (-2) = (x, S) := by
  unfold kXor
  by_cases z : 0 ≤ x
  · rw [if_neg (by simpa using z), if_pos (by decide), show x ^^^ ((-2 : Int32) &&& 1) = x from by rw [show ((-2 : Int32) &&& 1) = 0 from rfl]; simp]
  · rw [if_pos z]
    rcases h z with y | y
    · rw [y]; rfl
    · rw [y]; rfl
theorem mX_z (h : CNl x) : mXor T x (-2) = (x, T) := by
  unfold mXor
  by_cases z : 0 ≤ x
  · rw [if_neg (by simpa using z), if_pos (by decide), show x ^^^ ((-2 : Int32) &&& 1) = x from by rw [show ((-2 : Int32) &&& 1) = 0 from rfl]; simp]
  · rw [if_pos z]
    rcases h z with y | y
    · rw [y]; rfl
    · rw [y]; rfl
theorem mux_k (h : CNl x) : (muxP e x x).1 S = (x, S) := by
  show kXor (kAnd (kXor S x x).2 e (kXor S x x).1).2 x (kAnd (kXor S x x).2 e (kXor S x x).1).1 = _
  rw [kX_s h]
  show kXor (kAnd S e (-2)).2 x (kAnd S e (-2)).1 = _
  rw [kA_z]
  exact kX_z h
theorem mux_m (h : CNl x) : (muxP e x x).2 T = (x, T) := by
  show mXor (mAnd (mXor T x x).2 e (mXor T x x).1).2 x (mAnd (mXor T x x).2 e (mXor T x x).1).1 = _
  rw [mX_s h]
  show mXor (mAnd T e (-2)).2 x (mAnd T e (-2)).1 = _
  rw [mA_z]
  exact mX_z h
theorem BU_dmx : ∀ (c k : Nat) (R : Nat → Int32), BU (dmxP e V L c k R)
  | 0, _, _ => BU_ret
  | c + 1, k, R => by
    unfold dmxP
    split
    · exact BU_dmx c (k + 1) R
    · exact BU_bind BU_mux (fun _ => BU_dmx c (k + 1) _)
theorem W_dmx : ∀ (c k : Nat) (R : Nat → Int32) (T : zS), VC T e → (∀ i, k ≤ i → i < k + c → ¬ V i = L i → VC T (V i) ∧ VC T (L i)) → (∀ i, VC T (R i)) → mWF VFs (dmxP e V L c k R) T
  | 0, _, _, _, _, _, hR => mWF_ret hR
  | c + 1, k, R, T, he, hV, hR => by
    unfold dmxP
    split
    · exact W_dmx c (k + 1) R T he (fun i q1 q2 q3 => hV i (by omega) (by omega) q3) hR
    · rename_i y
      have v := hV k (Nat.le_refl _) (by omega) y
      exact mWF_seq (fun _ => BU_dmx c (k + 1) _) (W_mux he v.1 v.2) (fun T1 o m1 h1 => W_dmx c (k + 1) _ T1 (m1 _ he) (fun i q1 q2 q3 => ⟨m1 _ (hV i (by omega) (by omega) q3).1, m1 _ (hV i (by omega) (by omega) q3).2⟩) (fun i => by
        show VC T1 (if i = k then o else R i)
        split
        · exact h1
        · exact m1 _ (hR i)))
theorem dmx_k (h : CNl (L k)) (hR : R k = L k) : (dmxP e V L (c + 1) k R).1 S = (dmxP e V L c (k + 1) (fun k' => if k' = k then ((muxP e (V k) (L k)).1 S).1 else R k')).1 ((muxP e (V k) (L k)).1 S).2 := by
  rw [show dmxP e V L (c + 1) k R = if V k = L k then dmxP e V L c (k + 1) R else cBind (muxP e (V k) (L k)) fun o => dmxP e V L c (k + 1) (fun k' => if k' = k then o else R k') from rfl]
  by_cases y : V k = L k
  · rw [if_pos y, y, mux_k h]
    show _ = (dmxP e V L c (k + 1) (fun k' => if k' = k then L k else R k')).1 S
    rw [show (fun k' => if k' = k then L k else R k') = R from funext fun k' => by
      show (if k' = k then L k else R k') = R k'
      split
      · rename_i q; rw [q]; exact hR.symm
      · rfl]
  · rw [if_neg y]
    rfl
theorem dmx_m (h : CNl (L k)) (hR : R k = L k) : (dmxP e V L (c + 1) k R).2 T = (dmxP e V L c (k + 1) (fun k' => if k' = k then ((muxP e (V k) (L k)).2 T).1 else R k')).2 ((muxP e (V k) (L k)).2 T).2 := by
  rw [show dmxP e V L (c + 1) k R = if V k = L k then dmxP e V L c (k + 1) R else cBind (muxP e (V k) (L k)) fun o => dmxP e V L c (k + 1) (fun k' => if k' = k then o else R k') from rfl]
  by_cases y : V k = L k
  · rw [if_pos y, y, mux_m h]
    show _ = (dmxP e V L c (k + 1) (fun k' => if k' = k then L k else R k')).2 T
    rw [show (fun k' => if k' = k then L k else R k') = R from funext fun k' => by
      show (if k' = k then L k else R k') = R k'
      split
      · rename_i q; rw [q]; exact hR.symm
      · rfl]
  · rw [if_neg y]
    rfl
theorem dmx_no : ∀ (c k : Nat) (R : Nat → Int32), (∀ i, k ≤ i → i < k + c → V i = L i) → dmxP e V L c k R = cRet R
  | 0, _, _, _ => rfl
  | c + 1, k, R, h => by
    rw [show dmxP e V L (c + 1) k R = if V k = L k then dmxP e V L c (k + 1) R else cBind (muxP e (V k) (L k)) fun o => dmxP e V L c (k + 1) (fun k' => if k' = k then o else R k') from rfl, if_pos (h k (Nat.le_refl _) (by omega))]
    exact dmx_no c (k + 1) R (fun i q1 q2 => h i (by omega) (by omega))
theorem dmx_ad : ∀ (c1 c2 k : Nat) (R : Nat → Int32), dmxP e V L (c1 + c2) k R = cBind (dmxP e V L c1 k R) (fun R' => dmxP e V L c2 (k + c1) R')
  | 0, c2, k, R => by rw [Nat.zero_add]; rfl
  | c1 + 1, c2, k, R => by
    rw [show c1 + 1 + c2 = (c1 + c2) + 1 by omega, show dmxP e V L (c1 + c2 + 1) k R = if V k = L k then dmxP e V L (c1 + c2) (k + 1) R else cBind (muxP e (V k) (L k)) fun o => dmxP e V L (c1 + c2) (k + 1) (fun k' => if k' = k then o else R k') from rfl, show dmxP e V L (c1 + 1) k R = if V k = L k then dmxP e V L c1 (k + 1) R else cBind (muxP e (V k) (L k)) fun o => dmxP e V L c1 (k + 1) (fun k' => if k' = k then o else R k') from rfl, show k + (c1 + 1) = k + 1 + c1 by omega]
    by_cases y : V k = L k
    · rw [if_pos y, if_pos y]
      exact dmx_ad c1 c2 (k + 1) R
    · rw [if_neg y, if_neg y]
      rw [show (fun o => dmxP e V L (c1 + c2) (k + 1) (fun k' => if k' = k then o else R k')) = (fun o => cBind (dmxP e V L c1 (k + 1) (fun k' => if k' = k then o else R k')) (fun R' => dmxP e V L c2 (k + 1 + c1) R')) from funext fun o => dmx_ad c1 c2 (k + 1) _]
      rfl
theorem dmx_ou : ∀ (c k : Nat) (R : Nat → Int32) (S : zS) (i : Nat), ¬ (k ≤ i ∧ i < k + c) → ((dmxP e V L c k R).1 S).1 i = R i
  | 0, _, _, _, _, _ => rfl
  | c + 1, k, R, S, i, h => by
    rw [show dmxP e V L (c + 1) k R = if V k = L k then dmxP e V L c (k + 1) R else cBind (muxP e (V k) (L k)) fun o => dmxP e V L c (k + 1) (fun k' => if k' = k then o else R k') from rfl]
    by_cases y : V k = L k
    · rw [if_pos y]
      exact dmx_ou c (k + 1) R S i (by omega)
    · rw [if_neg y]
      refine (dmx_ou c (k + 1) (fun k' => if k' = k then ((muxP e (V k) (L k)).1 S).1 else R k') ((muxP e (V k) (L k)).1 S).2 i (by omega)).trans ?_
      show (if i = k then _ else R i) = R i
      rw [if_neg (by omega)]
end DMX
