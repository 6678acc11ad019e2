/-! mean() beside build: statements, what is carried along -/
section VD2
variable {V : zS → Int32 → Bool → Prop} {Ex : zS → zS → Prop} {e : Int32} {ev : Bool}
/-- as v_dmx, of any V -/
theorem v_dmx2 (h : SV V Ex) {F G : Nat → Int32} {fb gb : Nat → Bool} : ∀ (c k : Nat) (R : Nat → Int32) (rb : Nat → Bool) (T : zS), V T e ev → (∀ i, k ≤ i → i < k + c → V T (F i) (fb i) ∧ V T (G i) (gb i)) → (∀ i, V T (R i) (rb i)) → (∀ i, k ≤ i → i < k + c → F i = G i → R i = G i) → cWF V Ex (fun T f => ∀ i, V T (f i) (if k ≤ i ∧ i < k + c then (if ev then fb i else gb i) else rb i)) (dmxP e F G c k R) T
  | 0, k, R, rb, T, he, hFG, hR, hs => cWF_ret (fun i => by
      rw [if_neg (by omega)]
      exact hR i)
  | c + 1, k, R, rb, T, he, hFG, hR, hs => by
    obtain ⟨hF, hG⟩ := hFG k (by omega) (by omega)
    by_cases z : F k = G k
    · have ep : dmxP e F G (c + 1) k R = dmxP e F G c (k + 1) R := if_pos z
      rw [ep]
      refine cWF_imp (fun T1 f q i => ?_) (v_dmx2 h c (k + 1) R (fun k' => if k' = k then (if ev then fb k else gb k) else rb k') T he (fun i q1 q2 => hFG i (by omega) (by omega)) (fun i => ?_) (fun i q1 q2 => hs i (by omega) (by omega)))
      · have q' := q i
        by_cases y : k + 1 ≤ i ∧ i < k + 1 + c
        · rw [if_pos y] at q'
          rw [if_pos (by omega)]
          exact q'
        · rw [if_neg y] at q'
          by_cases x : i = k
          · rw [if_pos x] at q'
            rw [if_pos (by omega), x]
            rw [x] at q'
            exact q'
          · rw [if_neg x] at q'
            rw [if_neg (by omega)]
            exact q'
      · by_cases x : i = k
        · rw [if_pos x, x, hs k (by omega) (by omega) z]
          cases ev
          · exact hG
          · rw [← z]
            exact hF
        · rw [if_neg x]
          exact hR i
    · have ep : dmxP e F G (c + 1) k R = cBind (muxP e (F k) (G k)) fun o => dmxP e F G c (k + 1) (fun k' => if k' = k then o else R k') := if_neg z
      rw [ep]
      refine cWF_seq h (v_mux h he hF hG) (fun T1 o e1 ho => ?_)
      refine cWF_imp (fun T2 f q i => ?_) (v_dmx2 h c (k + 1) (fun k' => if k' = k then o else R k') (fun k' => if k' = k then (if ev then fb k else gb k) else rb k') T1 (h.2.2.1 _ _ _ _ e1 he) (fun i q1 q2 => ⟨h.2.2.1 _ _ _ _ e1 (hFG i (by omega) (by omega)).1, h.2.2.1 _ _ _ _ e1 (hFG i (by omega) (by omega)).2⟩) (fun i => by
        by_cases x : i = k
        · rw [if_pos x, if_pos x]
          exact ho
        · rw [if_neg x, if_neg x]
          exact h.2.2.1 _ _ _ _ e1 (hR i)) (fun i q1 q2 q3 => by
            show (if i = k then o else R i) = G i
            rw [if_neg (by omega)]
            exact hs i (by omega) (by omega) q3))
      have q' := q i
      by_cases y : k + 1 ≤ i ∧ i < k + 1 + c
      · rw [if_pos y] at q'
        rw [if_pos (by omega)]
        exact q'
      · rw [if_neg y] at q'
        by_cases x : i = k
        · rw [if_pos x] at q'
          rw [if_pos (by omega), x]
          rw [x] at q'
          exact q'
        · rw [if_neg x] at q'
          rw [if_neg (by omega)]
          exact q'
end VD2
def MYe (w : Nat) (Av : Nat → Nat → Prop) (S : zS) (vw nv : Nat) (vb vq vt : Nat → Nat) (u sd : Nat) (B : zS) : Prop := B.1 73 94 = nI sd ∧ B.1 73 101 = nI u ∧ VSx w nv vw vb vq vt B ∧ VLk w nv vb vq vt Av S
/-- both runs between statements -/
def MYS (inb : Nat → Nat) (wb w : Nat) (act : Prop) (Av : Nat → Nat → Prop) (S T : zS) (vw nv : Nat) (vb vq vt : Nat → Nat) (u sd st : Nat) (B C : zS) : Prop := MXS inb wb w act Av S T 0 0 0 0 st B C ∧ MYe w Av S vw nv vb vq vt u sd B
/-- what statements keep of build -/
def SFm (j u nv : Nat) (B B' : zS) : Prop := (∀ c k, (115 ≤ c ∧ c ≤ 121) ∨ (c = 73 ∧ (k = 65 ∨ k = 69)) ∨ ((133 ≤ c ∧ c ≤ 135) ∧ k < nv) ∨ ((136 ≤ c ∧ c ≤ 138) ∧ k < u) ∨ ((c = 139 ∨ c = 140) ∧ k < 8192 * u) ∨ (c = 143 ∧ k < j) → B'.1 c k = B.1 c k) ∧ ∀ c k, ¬ ((c = 141 ∨ c = 142) ∧ j ≤ k) → B'.2 c k = B.2 c k
/-- what statements keep of mean() -/
def FCs (j : Nat) (C C' : zS) : Prop := (∀ c k, ¬ (c = 73 ∧ (k = 110 ∨ k = 115)) → ¬ (c = 144 ∨ c = 145) → C'.1 c k = C.1 c k) ∧ ∀ c k, ¬ (c = 147 ∨ c = 148) → ¬ ((c = 141 ∨ c = 142) ∧ j ≤ k) → C'.2 c k = C.2 c k
def OZ (l l2 : Launch) (Gr Gr2 : zG) (n w d d2 : Nat) (act : Prop) (j0 u nv : Nat) (Z : Nat → zS → zS → Prop) (j j' st : Nat) (B C : zS) : Prop := (∃ B' C' st', st ≤ st' ∧ MGo l Gr n w d B j B' j' ∧ (act → NGo l2 Gr2 n w d2 C j C' j' ∧ FCs j0 C C') ∧ SFm j0 u nv B B' ∧ Exk B B' ∧ Z st' B' C') ∨ ∃ B' j'', MGo l Gr n w d B j B' j'' ∧ ¬ B'.1 73 7 = 0
/-- the visible vars' words have the same values -/
def NVt (inb : Nat → Nat) (wb : Nat) (act : Prop) (nv : Nat) (vb vq vt : Nat → Nat) (B C : zS) : Prop := ∀ t W, t < nv → vb t ≤ W → W < vb t + vq t → ∃ v, v < 2 ^ vt t ∧ (act → C.2 148 W = lN v) ∧ ∀ x, x < vt t → Vk inb wb B (B.1 132 (32 * W + x)) (v.testBit x)
section OZL
variable {l l2 : Launch} {Gr Gr2 : zG} {n w d d2 : Nat} {inb : Nat → Nat} {wb : Nat} {act : Prop} {Av Av' : Nat → Nat → Prop} {S T B B' B1 B2 C C' C1 C2 : zS} {j0 j0' u u' nv nv' vw sd st st' j j' j1 j2 t t' a r z e p M N hr cd rf k : Nat} {vb vq vt : Nat → Nat} {Z Z1 Z2 : Nat → zS → zS → Prop} {os : List Nat} {cs : Nat → Prop}
theorem SFm_rfl : SFm j0 u nv B B := ⟨fun _ _ _ => rfl, fun _ _ _ => rfl⟩
theorem SFm_tr (h1 : SFm j0 u nv B B1) (h2 : SFm j0 u nv B1 B2) : SFm j0 u nv B B2 := ⟨fun c k q => (h2.1 c k q).trans (h1.1 c k q), fun c k q => (h2.2 c k q).trans (h1.2 c k q)⟩
theorem SFm_mo (h : SFm j0' u' nv' B B') (q1 : j0 ≤ j0') (q2 : u ≤ u') (q3 : nv ≤ nv') : SFm j0 u nv B B' := ⟨fun c k q => h.1 c k (by omega), fun c k q => h.2 c k (by omega)⟩
theorem FCs_rfl : FCs j0 C C := ⟨fun _ _ _ _ => rfl, fun _ _ _ _ => rfl⟩
theorem FCs_tr (h1 : FCs j0 C C1) (h2 : FCs j0 C1 C2) : FCs j0 C C2 := ⟨fun c k q1 q2 => (h2.1 c k q1 q2).trans (h1.1 c k q1 q2), fun c k q1 q2 => (h2.2 c k q1 q2).trans (h1.2 c k q1 q2)⟩
theorem FCs_mo (h : FCs j0' C C') (q1 : j0 ≤ j0') : FCs j0 C C' := ⟨h.1, fun c k q1 q2 => h.2 c k q1 (by omega)⟩
theorem FCs_x (h : FC hr cd C C') : FCs j0 C C' := ⟨fun c k q1 q2 => h.1 c k q1 (by omega), fun c k q1 q2 => h.2 c k (by omega)⟩
theorem SFm_x (h : FM (PXm hr cd) B B') : SFm j0 u nv B B' := ⟨fun c k q => h.1 c k (by omega) (by omega) (by unfold PXm; omega), fun c k _ => h.2 c k⟩
theorem OZ_seq (h1 : OZ l l2 Gr Gr2 n w d d2 act j0 u nv Z1 j j1 st B C) (h2 : ∀ B1 C1 st1, st ≤ st1 → Z1 st1 B1 C1 → OZ l l2 Gr Gr2 n w d d2 act j0 u nv Z2 j1 j2 st1 B1 C1) : OZ l l2 Gr Gr2 n w d d2 act j0 u nv Z2 j j2 st B C := by
  rcases h1 with ⟨B1, C1, st1, s1, m1, n1, f1, e1, z1⟩ | ⟨B1, j3, m1, z1⟩
  · rcases h2 B1 C1 st1 s1 z1 with ⟨B2, C2, st2, s2, m2, n2, f2, e2, z2⟩ | ⟨B2, j3, m2, z2⟩
    · exact Or.inl ⟨B2, C2, st2, by omega, MGo_tr m1 m2, fun t => ⟨NGo_tr (n1 t).1 (n2 t).1, FCs_tr (n1 t).2 (n2 t).2⟩, SFm_tr f1 f2, Ex_tr e1 e2, z2⟩
    · exact Or.inr ⟨B2, j3, MGo_tr m1 m2, z2⟩
  · exact Or.inr ⟨B1, j3, m1, z1⟩
theorem OZ_mo (h : OZ l l2 Gr Gr2 n w d d2 act j0' u' nv' Z1 j j1 st B C) (q1 : j0 ≤ j0') (q2 : u ≤ u') (q3 : nv ≤ nv') (hZ : ∀ st B C, Z1 st B C → Z2 st B C) : OZ l l2 Gr Gr2 n w d d2 act j0 u nv Z2 j j1 st B C := by
  rcases h with ⟨B1, C1, st1, s1, m1, n1, f1, e1, z1⟩ | h
  · exact Or.inl ⟨B1, C1, st1, s1, m1, fun t => ⟨(n1 t).1, FCs_mo (n1 t).2 q1⟩, SFm_mo f1 q1 q2 q3, e1, hZ _ _ _ z1⟩
  · exact Or.inr h
theorem MYe_k (h : MYe w Av S vw nv vb vq vt u sd B) (g : ∀ c k, (c = 73 ∧ (k = 94 ∨ k = 97 ∨ k = 101)) ∨ (133 ≤ c ∧ c ≤ 135) → B'.1 c k = B.1 c k) : MYe w Av S vw nv vb vq vt u sd B' := by
  obtain ⟨y1, y2, ⟨y3, y4, y5, y6, y7⟩, y8⟩ := h
  refine ⟨(g 73 94 (by omega)).trans y1, (g 73 101 (by omega)).trans y2, ⟨(g 73 97 (by omega)).trans y3, y4, y5, fun t ht => ?_, y7⟩, y8⟩
  rw [g 133 t (by omega), g 134 t (by omega), g 135 t (by omega)]
  exact y6 t ht
theorem MYe_x (h : MYe w Av S vw nv vb vq vt u sd B) (g : FM (PXm hr cd) B B') : MYe w Av S vw nv vb vq vt u sd B' := MYe_k h (fun c k q => g.1 c k (by omega) (by omega) (by unfold PXm; omega))
/-- EXPRs in a statement -/
theorem oz_u (h : OU l l2 Gr Gr2 n w d d2 inb wb act Av S T 0 0 0 os cs j j' hr st B C) (y : MYe w Av S vw nv vb vq vt u sd B) : OZ l l2 Gr Gr2 n w d d2 act j0 u nv (fun st B C => MXS inb wb w act Av S T 0 0 0 (hr + os.length) st B C ∧ WVs inb wb w act os cs hr B C ∧ MYe w Av S vw nv vb vq vt u sd B) j j' st B C := by
  rcases h with ⟨B1, C1, st1, s1, m1, n1, f1, e1, x1, o1⟩ | h
  · exact Or.inl ⟨B1, C1, st1, s1, m1, fun t => ⟨(n1 t).1, FCs_x (n1 t).2⟩, SFm_x f1, e1, x1, o1, MYe_x y f1⟩
  · exact Or.inr h
/-- the circuit is the same -/
theorem Gd_l (h : MEl B B') (h94 : ∃ q, q ≤ 80 ∧ B'.1 73 94 = nI q) (hd : GdT wb B) : GdT wb B' := by
  obtain ⟨⟨⟨⟨g0, g1, g2⟩, -⟩, iw, m2, m3⟩, h2, h3, G, q1, q2, q3⟩ := hd
  refine ⟨⟨⟨⟨g0, g1, (h.1 66 (by omega)).trans g2⟩, h94⟩, iw, m2, (h.1 65 (by omega)).trans m3⟩, (h.1 65 (by omega)).trans h2, h3, G, q1, (h.1 66 (by omega)).trans q2, fun g hg => ?_⟩
  rw [h.2 113 g (by omega), h.2 114 g (by omega)]
  exact q3 g hg
theorem Ex_l (h : MEl B B') (hd : GdT wb B) : Exk B B' := by
  obtain ⟨g, hg, e⟩ := Gd_n hd
  exact Or.inr ⟨g, g, Nat.le_refl _, hg, e, (h.1 66 (by omega)).trans e, h.1 65 (by omega), fun c k q1 q2 _ => h.2 c k (by omega), fun q => by rw [h.1 7 (by omega)]; exact q⟩
theorem MEl_f (h : ∀ c k, (c = 73 ∧ (k = 7 ∨ (65 ≤ k ∧ k ≤ 68))) ∨ (111 ≤ c ∧ c ≤ 114) → B'.1 c k = B.1 c k) : MEl B B' := ⟨fun k q => h 73 k (by omega), fun c k q => h c k (by omega)⟩
/-- vars lie one behind the other -/
theorem vs_lt (h : ∀ t, t + 1 < nv → vb t + vq t ≤ vb (t + 1)) : ∀ k t, t + 1 + k < nv → vb t + vq t ≤ vb (t + 1 + k)
  | 0, t, ht => h t ht
  | k + 1, t, ht => by
    have a := vs_lt h k t (by omega)
    have b := h (t + 1 + k) (by omega)
    show _ ≤ vb (t + 1 + (k + 1))
    have e : t + 1 + (k + 1) = t + 1 + k + 1 := by omega
    rw [e]
    omega
theorem vs_un {W : Nat} (h : ∀ t, t + 1 < nv → vb t + vq t ≤ vb (t + 1)) (h1 : t < nv) (h2 : t' < nv) (a1 : vb t ≤ W) (a2 : W < vb t + vq t) (b1 : vb t' ≤ W) (b2 : W < vb t' + vq t') : t = t' := by
  rcases Nat.lt_trichotomy t t' with q | q | q
  · have := vs_lt h (t' - t - 1) t (by omega)
    rw [show t + 1 + (t' - t - 1) = t' by omega] at this
    omega
  · exact q
  · have := vs_lt h (t - t' - 1) t' (by omega)
    rw [show t' + 1 + (t - t' - 1) = t by omega] at this
    omega
theorem NV_t (h : NV inb wb w act Av S 0 0 B C) (hl : VLc w nv vb vq vt Av S) : NVt inb wb act nv vb vq vt B C := fun t W ht h1 h2 => by
  obtain ⟨e, r, z, q1, q2, q3, q4, q5, q6, q7, q8⟩ := hl t ht
  obtain ⟨-, E⟩ := (h e (vb t) r z q1 q3 q5 q4 q6).2.1 q2
  obtain ⟨v, v1, v2, v3⟩ := E (W - vb t) (by omega)
  rw [show vb t + (W - vb t) = W by omega] at v2 v3
  exact ⟨v, by rw [q8]; exact v1, v2, fun x hx => v3 x (by rw [← q8]; exact hx)⟩
theorem NVt_x (hi : ∀ t, inb t = 0 ∨ inb t = 1) (h : NVt inb wb act nv vb vq vt B C) (ex : Exk B B') (f : ∀ k, B'.1 132 k = B.1 132 k) (f2 : act → ∀ k, C'.2 148 k = C.2 148 k) : NVt inb wb act nv vb vq vt B' C' := fun t W ht h1 h2 => by
  obtain ⟨v, v1, v2, v3⟩ := h t W ht h1 h2
  exact ⟨v, v1, fun q => by rw [f2 q]; exact v2 q, fun x hx => by rw [f]; exact Vk_x hi ex (v3 x hx)⟩
/-- NAMEs that are no vars go along; vars by their words -/
theorem t_NV (hi : ∀ t, inb t = 0 ∨ inb t = 1) (h : NV inb wb w act Av S 0 0 B C) (hk : VLk w nv vb vq vt Av S) (ht : NVt inb wb act nv vb vq vt B' C') (h256 : ∀ t, t < nv → vb t + vq t ≤ 256) (ex : Exk B B') (f117 : ∀ k, B'.1 117 k = B.1 117 k) (f141 : ∀ e a, Av e a → S.1 11 e = 2 → B'.2 141 a = B.2 141 a) (fin : act → ∀ a, inW C' a = inW C a) (c141 : act → ∀ e a, Av e a → S.1 11 e = 2 → C'.2 141 a = C.2 141 a) : NV inb wb w act Av S 0 0 B' C' := fun e a r z h1 h2 h3 h4 h5 => by
  obtain ⟨k0, k1, k2, k3⟩ := h e a r z h1 h2 h3 h4 h5
  refine ⟨fun q => ⟨(k0 q).1, fun y hy => ?_⟩, fun q => ?_, fun q => ?_, fun q => absurd (k3 q).1 (by omega)⟩
  · obtain ⟨v, v1, v2, v3⟩ := (k0 q).2 y hy
    exact ⟨v, v1, fun t => by rw [fin t]; exact v2 t, fun x hx => by rw [f117]; exact Vk_x hi ex (v3 x hx)⟩
  · obtain ⟨t, t1, t2, t3, t4⟩ := hk e a r z h1 q h2 h4 h3 h5
    refine ⟨by rw [← t2, ← t3]; exact h256 t t1, fun y hy => ?_⟩
    obtain ⟨v, v1, v2, v3⟩ := ht t (a + y) t1 (by omega) (by omega)
    exact ⟨v, by rw [← t4]; exact v1, v2, fun x hx => v3 x (by rw [t4]; exact hx)⟩
  · obtain ⟨v, v1, v2, v3⟩ := k2 q
    exact ⟨v, v1, by rw [f141 e a h1 q]; exact v2, fun t => by rw [c141 t e a h1 q]; exact v3 t⟩
theorem NV_sub (h : NV inb wb w act Av' S rf k B C) (hs : ∀ e a, Av e a → Av' e a) : NV inb wb w act Av S rf k B C := fun e a r z h1 => h e a r z (hs e a h1)
theorem MD_s (h : MD T C) (f : FCs j0 C C') : MD T C' := ⟨(f.1 73 13 (by omega) (by omega)).trans h.1, fun c k q => (f.1 c k (by omega) (by omega)).trans (h.2.1 c k q), fun k => (f.2 82 k (by omega) (by omega)).trans (h.2.2 k)⟩
theorem inW_s (f : FCs j0 C C') (a : Nat) : inW C' a = inW C a := by
  unfold inW
  rw [f.1 73 124 (by omega) (by omega), f.2 118 a (by omega) (by omega), f.2 119 a (by omega) (by omega)]
/-- a statement begins -/
theorem oz_beg (hg : ip_gk (lg_tbl, vwCl, Gr)) (hg2 : ip_gk (lg_tbl, vwCl, Gr2)) (hw1 : 1 ≤ w) (hw : w ≤ 32) (hi : ∀ t, inb t = 0 ∨ inb t = 1) (cx : CTX S T N M) (h : MYS inb wb w act Av S T vw nv vb vq vt u sd st B C) (t1 : T.1 78 j = 20) (t2 : T.1 81 j = nI p) (hsd : sd < 80) (hj : j < M) : OZ l l2 Gr Gr2 n w d d2 act j0 u nv (fun st B C => MXS inb wb w act Av S T 0 0 0 0 st B C ∧ MYe w Av S vw nv vb vq vt u (sd + 1) B) j (j + 1) st B C := by
  obtain ⟨⟨hB, hC, hh, hN⟩, y1, y2, ⟨y3, y4, y5, y6, y7⟩, y8⟩ := h
  have hM := cx.2.2.2
  have b78 : B.1 78 j = 20 := (hB.1.2.1 78 j (by omega)).trans t1
  have b81 : B.1 81 j = nI p := (hB.1.2.1 81 j (by omega)).trans t2
  have m70 : (mBeg B sd p).1 73 70 = nI st := (mBeg_n (by omega) (by omega)).trans hB.2.2.2.2.1
  have run : ∀ R : zS → Prop, zMv l Gr (zc n w) 168 M_Mo_step (d + 10) [.ref 105] (mBeg B sd p) R → zMi l Gr (zc n w) 168 M_Mo_statement (d + 11) [.ref 105, .int (nI j)] B (fun v B' => v = nI (j + 1) ∧ R B') := fun R q => ms_20 (d := d + 5) hg (by omega) b78 b81 y1 hsd q
  by_cases z : st < 100000
  · have g : MGo l Gr n w d B j (zi (mBeg B sd p) 73 70 (nI (st + 1))) (j + 1) := mg_s (z := 20) hg hj hM (hB.1.1.trans cx.2.2.1) hB.2.1 b78 (by omega) (by omega) (run _ (wm_step (d := d + 9) z m70))
    have f : ∀ c k, ¬ (c = 73 ∧ (k = 70 ∨ k = 94)) → ¬ c = 131 → (zi (mBeg B sd p) 73 70 (nI (st + 1))).1 c k = B.1 c k := fun c k q1 q2 => by rw [zi_get, if_neg (by omega), mBeg_n (by omega) (by omega)]
    have me : MEl B (zi (mBeg B sd p) 73 70 (nI (st + 1))) := MEl_f (fun c k q => f c k (by omega) (by omega))
    have ex := Ex_l me hB.2.2.1
    have b94 : (zi (mBeg B sd p) 73 70 (nI (st + 1))).1 73 94 = nI (sd + 1) := by rw [zi_k (by decide)]; exact zi_v
    refine Or.inl ⟨_, C, st + 1, by omega, g, fun t => ⟨?_, FCs_rfl⟩, ⟨fun c k q => f c k (by omega) (by omega), fun _ _ _ => rfl⟩, ex, ⟨⟨⟨(f 73 13 (by omega) (by omega)).trans hB.1.1, fun c k q => (f c k (by omega) (by omega)).trans (hB.1.2.1 c k q), hB.1.2.2⟩, (f 73 7 (by omega) (by omega)).trans hB.2.1, Gd_l me ⟨sd + 1, by omega, b94⟩ hB.2.2.1, (f 73 85 (by omega) (by omega)).trans hB.2.2.2.1, zi_v, by omega, (f 73 110 (by omega) (by omega)).trans hB.2.2.2.2.2.2.1, fun q => absurd q (by omega)⟩, hC, hh, fun e a r z h1 h2 h3 h4 h5 => ?_⟩, b94, (f 73 101 (by omega) (by omega)).trans y2, ⟨(f 73 97 (by omega) (by omega)).trans y3, y4, y5, fun t ht => ?_, y7⟩, y8⟩
    · have hC := hC t
      exact ng_s (z := 20) hg2 hj hM (hC.1.1.trans cx.2.2.1) ((hC.1.2.1 78 j (by omega)).trans t1) (by omega) (by omega) (mt_nop (z := 20) (by omega) ((hC.1.2.1 78 j (by omega)).trans t1) (by omega))
    · obtain ⟨k0, k1, k2, k3⟩ := hN e a r z h1 h2 h3 h4 h5
      refine ⟨fun q => ⟨(k0 q).1, fun y hy => ?_⟩, fun q => ⟨(k1 q).1, fun y hy => ?_⟩, k2, fun q => absurd (k3 q).1 (by omega)⟩
      · obtain ⟨v, v1, v2, v3⟩ := (k0 q).2 y hy
        exact ⟨v, v1, v2, fun x hx => by rw [f 117 _ (by omega) (by omega)]; exact Vk_x hi ex (v3 x hx)⟩
      · obtain ⟨v, v1, v2, v3⟩ := (k1 q).2 y hy
        exact ⟨v, v1, v2, fun x hx => by rw [f 132 _ (by omega) (by omega)]; exact Vk_x hi ex (v3 x hx)⟩
    · rw [f 133 t (by omega) (by omega), f 134 t (by omega) (by omega), f 135 t (by omega) (by omega)]
      exact y6 t ht
  · have gm : GM (mBeg B sd p) := by
      obtain ⟨⟨g, g1, g2⟩, -⟩ := hB.2.2.1.1.1
      exact ⟨⟨g, g1, (mBeg_n (by omega) (by omega)).trans g2⟩, sd + 1, by omega, zi_v⟩
    refine Or.inr ⟨_, _, mg_s (z := 20) hg hj hM (hB.1.1.trans cx.2.2.1) hB.2.1 b78 (by omega) (by omega) (run _ (wm_stepX (d := d + 9) hg gm ((mBeg_n (by omega) (by omega)).trans hB.2.1) (by rw [m70, show st = 100000 by have := hB.2.2.2.2.2.1; omega]))), ?_⟩
    rw [zi_k (by decide), mF_f.1]
    decide
/-- a statement that has no meaning of its own -/
theorem oz_nop (hg : ip_gk (lg_tbl, vwCl, Gr)) (hg2 : ip_gk (lg_tbl, vwCl, Gr2)) (cx : CTX S T N M) (hB : MB T wb rf cd hr st B) (hC : act → MN T rf cd hr C) (hZ : Z st B C) (hz : z = 22 ∨ z = 23 ∨ z = 24 ∨ z = 27 ∨ z = 28 ∨ z = 31 ∨ z = 33 ∨ z = 38 ∨ z = 41) (t1 : T.1 78 j = nI z) (hj : j < M) : OZ l l2 Gr Gr2 n w d d2 act j0 u nv Z j (j + 1) st B C := by
  have hM := cx.2.2.2
  refine Or.inl ⟨B, C, st, Nat.le_refl _, mg_s (z := z) hg hj hM (hB.1.1.trans cx.2.2.1) hB.2.1 ((hB.1.2.1 78 j (by omega)).trans t1) (by omega) (by omega) (ms_nn (d := d + 5) (by omega) ((hB.1.2.1 78 j (by omega)).trans t1) hz), fun t => ⟨?_, FCs_rfl⟩, SFm_rfl, Ex_rfl, hZ⟩
  have hC := hC t
  exact ng_s (z := z) hg2 hj hM (hC.1.1.trans cx.2.2.1) ((hC.1.2.1 78 j (by omega)).trans t1) (by omega) (by omega) (mt_nop (z := z) (by omega) ((hC.1.2.1 78 j (by omega)).trans t1) (by omega))
/-- a statement ends -/
theorem oz_end (hg : ip_gk (lg_tbl, vwCl, Gr)) (hg2 : ip_gk (lg_tbl, vwCl, Gr2)) (hw1 : 1 ≤ w) (hw : w ≤ 32) (hi : ∀ t, inb t = 0 ∨ inb t = 1) (cx : CTX S T N M) (h : MYS inb wb w act Av S T vw nv vb vq vt u (sd + 1) st B C) (t1 : T.1 78 j = 21) (hsd : sd < 80) (hj : j < M) : OZ l l2 Gr Gr2 n w d d2 act j0 u nv' (MYS inb wb w act Av S T vw nv vb vq vt u sd) j (j + 1) st B C := by
  obtain ⟨⟨hB, hC, hh, hN⟩, y1, y2, ⟨y3, y4, y5, y6, y7⟩, y8⟩ := h
  have hM := cx.2.2.2
  have b78 : B.1 78 j = 21 := (hB.1.2.1 78 j (by omega)).trans t1
  have f : ∀ c k, ¬ (c = 73 ∧ k = 94) → (zi B 73 94 (nI sd)).1 c k = B.1 c k := fun c k q => by rw [zi_get, if_neg q]
  have me : MEl B (zi B 73 94 (nI sd)) := MEl_f (fun c k q => f c k (by omega))
  have ex := Ex_l me hB.2.2.1
  refine Or.inl ⟨zi B 73 94 (nI sd), C, st, Nat.le_refl _, mg_s (z := 21) hg hj hM (hB.1.1.trans cx.2.2.1) hB.2.1 b78 (by omega) (by omega) (ms_21 (d := d + 5) (by omega) b78 y1), fun t => ⟨?_, FCs_rfl⟩, ⟨fun c k q => f c k (by omega), fun _ _ _ => rfl⟩, ex, ⟨⟨⟨(f 73 13 (by omega)).trans hB.1.1, fun c k q => (f c k (by omega)).trans (hB.1.2.1 c k q), hB.1.2.2⟩, (f 73 7 (by omega)).trans hB.2.1, Gd_l me ⟨sd, by omega, zi_v⟩ hB.2.2.1, (f 73 85 (by omega)).trans hB.2.2.2.1, (f 73 70 (by omega)).trans hB.2.2.2.2.1, hB.2.2.2.2.2.1, (f 73 110 (by omega)).trans hB.2.2.2.2.2.2.1, fun q => absurd q (by omega)⟩, hC, hh, fun e a r z h1 h2 h3 h4 h5 => ?_⟩, zi_v, (f 73 101 (by omega)).trans y2, ⟨(f 73 97 (by omega)).trans y3, y4, y5, fun t ht => ?_, y7⟩, y8⟩
  · have hC := hC t
    exact ng_s (z := 21) hg2 hj hM (hC.1.1.trans cx.2.2.1) ((hC.1.2.1 78 j (by omega)).trans t1) (by omega) (by omega) (mt_nop (z := 21) (by omega) ((hC.1.2.1 78 j (by omega)).trans t1) (by omega))
  · obtain ⟨k0, k1, k2, k3⟩ := hN e a r z h1 h2 h3 h4 h5
    refine ⟨fun q => ⟨(k0 q).1, fun y hy => ?_⟩, fun q => ⟨(k1 q).1, fun y hy => ?_⟩, k2, fun q => absurd (k3 q).1 (by omega)⟩
    · obtain ⟨v, v1, v2, v3⟩ := (k0 q).2 y hy
      exact ⟨v, v1, v2, fun x hx => by rw [f 117 _ (by omega)]; exact Vk_x hi ex (v3 x hx)⟩
    · obtain ⟨v, v1, v2, v3⟩ := (k1 q).2 y hy
      exact ⟨v, v1, v2, fun x hx => by rw [f 132 _ (by omega)]; exact Vk_x hi ex (v3 x hx)⟩
  · rw [f 133 t (by omega), f 134 t (by omega), f 135 t (by omega)]
    exact y6 t ht
end OZL
