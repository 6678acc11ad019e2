/-! mean() beside build: an if's end -/
section OIF
variable {l l2 : Launch} {Gr Gr2 : zG} {n w d d2 : Nat} {inb : Nat → Nat} {wb : Nat} {act : Prop} {Av Av' : Nat → Nat → Prop} {S T B B' B1 B2 C C' C1 C2 X Ca Cb : zS} {j0 u nv vw sd st j j' j1 j2 t a r z e p M N hr k D NC : Nat} {vb vq vt : Nat → Nat} {Z : Nat → zS → zS → Prop} {ec : Int32}
theorem dm_w {W W' x x' : Nat} (hx : x < w) (hx' : x' < w) (h : W * w + x = W' * w + x') : W = W' ∧ x = x' := by
  have e1 : (W * w + x) / w = W := by rw [Nat.mul_comm, Nat.mul_add_div (by omega), Nat.div_eq_of_lt hx, Nat.add_zero]
  have e2 : (W' * w + x') / w = W' := by rw [Nat.mul_comm, Nat.mul_add_div (by omega), Nat.div_eq_of_lt hx', Nat.add_zero]
  have e : W = W' := by rw [← e1, ← e2, h]
  subst e
  exact ⟨rfl, by omega⟩
/-- what 37 makes of the words of both branches -/
theorem os_close (hg : ip_gk (lg_tbl, vwCl, Gr)) (hw1 : 1 ≤ w) (hw : w ≤ 32) (hi : ∀ t, inb t = 0 ∨ inb t = 1) (cx : CTX S T N M) (hB : MB T wb 0 0 0 st B) (hu : u < 40) (b101 : B.1 73 101 = nI (u + 1)) (b137 : B.1 137 u = nI nv) (b136 : B.1 136 u = ec) (hec : Vk inb wb B ec (decide (NC = 1))) (hnv : nv ≤ 256) (y6 : ∀ t, t < nv → B.1 133 t = nI (vb t) ∧ B.1 134 t = nI (vq t) ∧ B.1 135 t = nI (vt t) ∧ vb t + vq t ≤ 256 ∧ (vt t = 1 ∨ vt t = w)) (y7 : ∀ t, t + 1 < nv → vb t + vq t ≤ vb (t + 1)) (h1 : ∀ t W, t < nv → vb t ≤ W → W < vb t + vq t → ∃ v, v < 2 ^ vt t ∧ (act → NC = 1 → Ca.2 148 W = lN v) ∧ ∀ x, x < vt t → Vk inb wb B (if B.1 138 u = 0 then B.1 132 (32 * W + x) else B.1 140 (8192 * u + 32 * W + x)) (v.testBit x)) (h2 : ∀ t W, t < nv → vb t ≤ W → W < vb t + vq t → ∃ v, v < 2 ^ vt t ∧ (act → ¬ NC = 1 → Cb.2 148 W = lN v) ∧ ∀ x, x < vt t → Vk inb wb B (if B.1 138 u = 0 then B.1 139 (8192 * u + 32 * W + x) else B.1 132 (32 * W + x)) (v.testBit x)) (t1 : T.1 78 j = 37) (hj : j < M) : ∃ B', MGo l Gr n w d B j B' (j + 1) ∧ (¬ B'.1 73 7 = 0 ∨ (B'.1 73 7 = 0 ∧ GdT wb B' ∧ Exk B B' ∧ (∀ c i, ¬ (c = 73 ∧ (i = 7 ∨ i = 8 ∨ i = 66 ∨ i = 67 ∨ i = 68 ∨ i = 97 ∨ i = 101)) → ¬ (111 ≤ c ∧ c ≤ 114) → ¬ c = 132 → ¬ (c = 140 ∧ 8192 * u ≤ i) → B'.1 c i = B.1 c i) ∧ (∀ c i, B'.2 c i = B.2 c i) ∧ B'.1 73 97 = nI nv ∧ B'.1 73 101 = nI u ∧ NVt inb wb act nv vb vq vt B' (if NC = 1 then Ca else Cb))) := by
  have hM := cx.2.2.2
  have vw32 : ∀ t, t < nv → vt t ≤ w := fun t ht => by
    have := (y6 t ht).2.2.2.2
    omega
  obtain ⟨VL, eVL⟩ : ∃ VL : Nat → Nat → Int32, VL = fun W x => if B.1 138 u = 0 then B.1 132 (32 * W + x) else B.1 140 (8192 * u + 32 * W + x) := ⟨_, rfl⟩
  obtain ⟨LL, eLL⟩ : ∃ LL : Nat → Nat → Int32, LL = fun W x => if B.1 138 u = 0 then B.1 139 (8192 * u + 32 * W + x) else B.1 132 (32 * W + x) := ⟨_, rfl⟩
  obtain ⟨v1, hv1⟩ := Classical.axiomOfChoice (r := fun (q : Nat × Nat) v => q.1 < nv → vb q.1 ≤ q.2 → q.2 < vb q.1 + vq q.1 → v < 2 ^ vt q.1 ∧ (act → NC = 1 → Ca.2 148 q.2 = lN v) ∧ ∀ x, x < vt q.1 → Vk inb wb B (VL q.2 x) (v.testBit x)) (fun q => by
    by_cases y : q.1 < nv ∧ vb q.1 ≤ q.2 ∧ q.2 < vb q.1 + vq q.1
    · obtain ⟨v, hv⟩ := h1 q.1 q.2 y.1 y.2.1 y.2.2
      exact ⟨v, fun _ _ _ => by rw [eVL]; exact hv⟩
    · exact ⟨0, fun a b c => absurd ⟨a, b, c⟩ y⟩)
  obtain ⟨v2, hv2⟩ := Classical.axiomOfChoice (r := fun (q : Nat × Nat) v => q.1 < nv → vb q.1 ≤ q.2 → q.2 < vb q.1 + vq q.1 → v < 2 ^ vt q.1 ∧ (act → ¬ NC = 1 → Cb.2 148 q.2 = lN v) ∧ ∀ x, x < vt q.1 → Vk inb wb B (LL q.2 x) (v.testBit x)) (fun q => by
    by_cases y : q.1 < nv ∧ vb q.1 ≤ q.2 ∧ q.2 < vb q.1 + vq q.1
    · obtain ⟨v, hv⟩ := h2 q.1 q.2 y.1 y.2.1 y.2.2
      exact ⟨v, fun _ _ _ => by rw [eLL]; exact hv⟩
    · exact ⟨0, fun a b c => absurd ⟨a, b, c⟩ y⟩)
  obtain ⟨p, hp⟩ := Classical.axiomOfChoice (r := fun k (p : Int32 × Int32 × Bool × Bool) => (∀ t W x, t < nv → vb t ≤ W → W < vb t + vq t → x < vt t → k = W * w + x → p.1 = VL W x ∧ p.2.1 = LL W x ∧ p.2.2.1 = (v1 (t, W)).testBit x ∧ p.2.2.2 = (v2 (t, W)).testBit x) ∧ ((¬ ∃ t W x, t < nv ∧ vb t ≤ W ∧ W < vb t + vq t ∧ x < vt t ∧ k = W * w + x) → p = (-2, -2, false, false))) (fun k => by
    by_cases y : ∃ t W x, t < nv ∧ vb t ≤ W ∧ W < vb t + vq t ∧ x < vt t ∧ k = W * w + x
    · obtain ⟨t, W, x, a1, a2, a3, a4, a5⟩ := y
      refine ⟨(VL W x, LL W x, (v1 (t, W)).testBit x, (v2 (t, W)).testBit x), fun t' W' x' c1 c2 c3 c4 c5 => ?_, fun q => absurd ⟨t, W, x, a1, a2, a3, a4, a5⟩ q⟩
      have q1 := vw32 t a1
      have q2 := vw32 t' c1
      obtain ⟨e1, e2⟩ := dm_w (w := w) (by omega) (by omega) (a5.symm.trans c5)
      subst e1 e2
      have et := vs_un y7 a1 c1 a2 a3 c2 c3
      subst et
      exact ⟨rfl, rfl, rfl, rfl⟩
    · exact ⟨(-2, -2, false, false), fun t W x c1 c2 c3 c4 c5 => absurd ⟨t, W, x, c1, c2, c3, c4, c5⟩ y, fun _ => rfl⟩)
  have fz := (SV_2 (c := False) (wb := wb) hi).2.2.2.2.2 B
  have both : ∀ i, V2 inb wb False B (p i).1 (p i).2.2.1 ∧ V2 inb wb False B (p i).2.1 (p i).2.2.2 := fun i => by
    by_cases y : ∃ t W x, t < nv ∧ vb t ≤ W ∧ W < vb t + vq t ∧ x < vt t ∧ i = W * w + x
    · obtain ⟨t, W, x, a1, a2, a3, a4, a5⟩ := y
      obtain ⟨e1, e2, e3, e4⟩ := (hp i).1 t W x a1 a2 a3 a4 a5
      rw [e1, e2, e3, e4]
      exact ⟨⟨(hv1 (t, W) a1 a2 a3).2.2 x a4, fun q => q.elim⟩, ⟨(hv2 (t, W) a1 a2 a3).2.2 x a4, fun q => q.elim⟩⟩
    · rw [(hp i).2 y]
      exact ⟨fz, fz⟩
  have vc : ∀ i, VC B (p i).1 ∧ VC B (p i).2.1 := fun i => ⟨((both i).1.1 hB.2.1 hB.2.2.1.2.1 hB.2.2.1.2.2.1).1, ((both i).2.1 hB.2.1 hB.2.2.1.2.1 hB.2.2.1.2.2.1).1⟩
  have hA : ∀ t W x, t < nv → vb t ≤ W → W < vb t + vq t → x < vt t → (¬ B.1 138 u = 0 → B.1 140 (8192 * u + 32 * W + x) = (p (W * w + x)).1 ∧ B.1 132 (32 * W + x) = (p (W * w + x)).2.1) ∧ (B.1 138 u = 0 → B.1 132 (32 * W + x) = (p (W * w + x)).1 ∧ B.1 139 (8192 * u + 32 * W + x) = (p (W * w + x)).2.1) ∧ CNl (p (W * w + x)).2.1 ∧ VC B (p (W * w + x)).1 ∧ VC B (p (W * w + x)).2.1 := fun t W x a1 a2 a3 a4 => by
    obtain ⟨e1, e2, -, -⟩ := (hp (W * w + x)).1 t W x a1 a2 a3 a4 rfl
    refine ⟨fun y => ?_, fun y => ?_, (vc _).2.2, (vc _).1, (vc _).2⟩
    · rw [e1, e2, eVL, eLL]
      exact ⟨(if_neg y).symm, (if_neg y).symm⟩
    · rw [e1, e2, eVL, eLL]
      exact ⟨(if_pos y).symm, (if_pos y).symm⟩
  have hG : ∀ W x, W < 256 → x < w → (∀ t, t < nv → ¬ (vb t ≤ W ∧ W < vb t + vq t ∧ x < vt t)) → (p (W * w + x)).1 = (p (W * w + x)).2.1 := fun W x hW hx hgap => by
    rw [(hp (W * w + x)).2 (fun ⟨t, W', x', c1, c2, c3, c4, c5⟩ => by
      have q2 := vw32 t c1
      obtain ⟨e1, e2⟩ := dm_w (w := w) hx (by omega) c5
      subst e1 e2
      exact hgap t c1 ⟨c2, c3, c4⟩)]
  obtain ⟨B2, ⟨M2, F2, L2, b97, b101', h132, -⟩, g⟩ := ms_1 (l := l) (n := n) (w := w) (d := d) (z := 37) hg cx hB.1 hB.2.1 hj t1 (by omega) (by omega) (ms_37 (d := d + 4) (u := u) (nv := nv) (vb := vb) (vq := vq) (vt := vt) (e := ec) (V := fun k => (p k).1) (L := fun k => (p k).2.1) hg hw hw1 (by omega) hu hnv ((hB.1.2.1 78 j (by omega)).trans t1) b101 b137 b136 (fun t ht => ⟨(y6 t ht).1, (y6 t ht).2.1, (y6 t ht).2.2.1, (y6 t ht).2.2.2.1, vw32 t ht⟩) y7 hB.2.2.1.1 (hec hB.2.1 hB.2.2.1.2.1 hB.2.2.1.2.2.1).1 hA hG)
  refine ⟨B2, g, ?_⟩
  by_cases z7 : B2.1 73 7 = 0
  · right
    have z7' := z7
    rw [M2.1 7 (by omega)] at z7'
    obtain ⟨r1, r2, r3⟩ := mk_run2 (c := False) hi (v_dmx2 (ev := decide (NC = 1)) (fb := fun k => (p k).2.2.1) (gb := fun k => (p k).2.2.2) (SV_2 (c := False) (wb := wb) hi) (256 * w) 0 (fun k => (p k).2.1) (fun k => (p k).2.2.2) B ⟨hec, fun q => q.elim⟩ (fun i _ _ => both i) (fun i => (both i).2) (fun i _ _ _ => rfl)) hB.2.1 hB.2.2.1 z7'
    refine ⟨z7, Gd_E M2 r1, Ex_E (Gd_n hB.2.2.1) r2 M2, fun c i q1 q2 q3 q4 => F2 c i q1 q2 q3 (by omega), L2, b97, b101', fun t W ht c2 c3 => ?_⟩
    have hW := (y6 t ht).2.2.2.1
    refine ⟨if NC = 1 then v1 (t, W) else v2 (t, W), ?_, fun q => ?_, fun x hx => ?_⟩
    · split
      · exact (hv1 (t, W) ht c2 c3).1
      · exact (hv2 (t, W) ht c2 c3).1
    · by_cases y : NC = 1
      · rw [if_pos y, if_pos y]
        exact (hv1 (t, W) ht c2 c3).2.1 q y
      · rw [if_neg y, if_neg y]
        exact (hv2 (t, W) ht c2 c3).2.1 q y
    · rw [h132 t W x ht c2 c3 hx]
      have q2 := vw32 t ht
      have hk : W * w + x < 256 * w := by
        have : (W + 1) * w ≤ 256 * w := Nat.mul_le_mul_right _ (by omega)
        rw [Nat.succ_mul] at this
        omega
      have this := (r3 (W * w + x)).1
      rw [if_pos (show 0 ≤ W * w + x ∧ W * w + x < 0 + 256 * w from ⟨Nat.zero_le _, by omega⟩)] at this
      obtain ⟨-, -, e3, e4⟩ := (hp (W * w + x)).1 t W x ht c2 c3 hx rfl
      refine Vk_x hi (Or.inr (Gw_E (Gd_n r1) M2)) ?_
      have ev : (if NC = 1 then v1 (t, W) else v2 (t, W)).testBit x = if decide (NC = 1) = true then (p (W * w + x)).2.2.1 else (p (W * w + x)).2.2.2 := by
        rw [e3, e4]
        by_cases y : NC = 1
        · rw [if_pos y, decide_eq_true y, if_pos rfl]
        · rw [if_neg y, decide_eq_false y, if_neg (by decide)]
      rw [ev]
      exact this
  · exact Or.inl z7
end OIF
