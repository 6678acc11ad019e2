/-! truth's memo is kept by every call; truth()'s turn -/
section XTA
variable {l : Launch} {Gr : zG} {n w d q G wb iw no k m : Nat} {S S' X : zS} {x : Int32} {V V' : Nat → Nat}
theorem CWk_fr (h : CWk S) (hf : ∀ c k, cvR c k → S'.1 c k = S.1 c k) (h33 : ∀ t, S'.1 33 t = S.1 33 t) (hv : ∀ a, vmE S' a = vmE S a) : CWk S' := fun G wb iw no hs => by
  obtain ⟨V, v1, v2⟩ := h G wb iw no (szC_fr hs hf)
  exact ⟨V, CVs_fr (S := S') (S' := S) (fun c k z => (hf c k z).symm) (fun a _ => (hv a).symm) v1, fun t ht => by rw [h33 t]; exact v2 t ht⟩
theorem OWk_fr (h : OWk S) (hf : ∀ c k, cvR c k → S'.1 c k = S.1 c k) (h149 : ∀ k, S'.2 149 k = S.2 149 k) (hv : ∀ a, vmE S' a = vmE S a) : OWk S' := fun G wb iw no hs V hV k m hk hm h120 => by
  have r := owV_fr hf (h G wb iw no (szC_fr hs hf) V (CVs_fr hf (fun a _ => hv a) hV)) k m hk hm h120
  rw [h149 k]
  exact r
theorem vmE_cg (h15 : S'.1 0 15 = S.1 0 15) (h21 : ∀ a, S'.1 21 a = S.1 21 a) (h22 : ∀ a, S'.1 22 a = S.1 22 a) (a : Nat) : vmE S' a = vmE S a := by
  unfold vmE vmF
  rw [h15, h21 a, h22 a]
/-- cells that XTr is read from -/
def xtR (c k : Nat) : Prop := cvR c k ∨ (c = 73 ∧ (k = 13 ∨ k = 83 ∨ k = 119)) ∨ (78 ≤ c ∧ c ≤ 80) ∨ c = 89 ∨ (102 ≤ c ∧ c ≤ 104) ∨ (c = 0 ∧ (14 ≤ k ∧ k ≤ 16)) ∨ c = 21 ∨ c = 22 ∨ c = 33
theorem XT_fr (h : XTr n w S) (hf : ∀ c k, xtR c k → S'.1 c k = S.1 c k) (h2 : ∀ c k, c = 82 ∨ c = 149 → S'.2 c k = S.2 c k) : XTr n w S' := by
  obtain ⟨h1, h3, h4⟩ := h
  have fc : ∀ c k, cvR c k → S'.1 c k = S.1 c k := fun c k z => hf c k (Or.inl z)
  have hv : ∀ a, vmE S' a = vmE S a := vmE_cg (hf 0 15 (by unfold xtR; omega)) (fun a => hf 21 a (by unfold xtR; omega)) (fun a => hf 22 a (by unfold xtR; omega))
  refine ⟨fun z => MEA_fr (h1 (by rw [← hf 73 83 (by unfold xtR; omega)]; exact z)) fc (fun c k z => hf c k (by unfold xtR; omega)) (fun k => h2 82 k (by omega)), fun z1 z2 => CWk_fr (h3 (by rw [← hf 0 16 (by unfold xtR; omega)]; exact z1) (by rw [← hf 0 14 (by unfold xtR; omega)]; exact z2)) fc (fun t => hf 33 t (by unfold xtR; omega)) hv, fun z1 z2 => OWk_fr (h4 (by rw [← hf 73 119 (by unfold xtR; omega)]; exact z1) (by rw [← hf 73 83 (by unfold xtR; omega)]; exact z2)) fc (fun k => h2 149 k (by omega)) hv⟩
theorem xt_gv (hA : iAl n w S) (h : XTr n w S) : XTr n w (gvS S k m (gv0 S) (gv1 S)) := by
  obtain ⟨h1, h3, h4⟩ := h
  have f : ∀ c i, ¬ (c = 21 ∧ i = k) → ¬ (c = 0 ∧ i = 16) → ¬ (c = 73 ∧ i = 119) → (gvS S k m (gv0 S) (gv1 S)).1 c i = S.1 c i := fun c i q1 q2 q3 => gvS_n q1 q2 q3
  have f2 : ∀ c i, ¬ c = 118 → (gvS S k m (gv0 S) (gv1 S)).2 c i = S.2 c i := fun c i z => by
    unfold gvS
    show (zj (zi (zi S 21 k (nI m)) 0 16 (gv0 S)) 118 k (lN m)).2 c i = _
    rw [zj_c z]
    rfl
  have fc : ∀ c i, cvR c i → (gvS S k m (gv0 S) (gv1 S)).1 c i = S.1 c i := fun c i z => by
    unfold cvR at z
    exact f c i (by omega) (by omega) (by omega)
  have hv : ¬ S.1 0 15 = 0 → ∀ a, vmE (gvS S k m (gv0 S) (gv1 S)) a = vmE S a := fun z a => by
    unfold vmE
    rw [f 0 15 (by omega) (by omega) (by omega), if_neg z, if_neg z, f 22 a (by omega) (by omega) (by omega)]
  have e16 : (gvS S k m (gv0 S) (gv1 S)).1 0 16 = gv0 S := by
    unfold gvS
    rw [zi_c (by decide), zj_get1, zi_v]
  have e119 : (gvS S k m (gv0 S) (gv1 S)).1 73 119 = gv1 S := by
    unfold gvS
    exact zi_v
  refine ⟨fun z => MEA_fr (h1 (by rw [← f 73 83 (by omega) (by omega) (by omega)]; exact z)) fc (fun c i z => f c i (by omega) (by omega) (by omega)) (fun i => f2 82 i (by omega)), fun z1 z2 => ?_, fun z1 z2 => ?_⟩
  · rw [e16] at z1
    unfold gv0 at z1
    have a1 : ¬ S.1 0 16 = 0 := fun y => z1 (by rw [if_pos y])
    have a2 : ¬ S.1 0 15 = 0 := fun y => z1 (by rw [if_neg a1, if_pos y])
    exact CWk_fr (h3 a1 (by rw [← f 0 14 (by omega) (by omega) (by omega)]; exact z2)) fc (fun t => f 33 t (by omega) (by omega) (by omega)) (hv a2)
  · rw [e119] at z1
    unfold gv1 at z1
    have a1 : ¬ S.1 73 119 = 0 := fun y => z1 (by rw [if_pos y])
    have a2 : ¬ S.1 73 124 = 0 := fun y => z1 (by rw [if_neg a1, if_pos y])
    have a3 : ¬ S.1 0 15 = 0 := by
      rcases hA.2.2.2.1 with ⟨-, b, -⟩ | ⟨b, -⟩
      · exact absurd b a2
      · rw [b]
        decide
    exact OWk_fr (h4 a1 (by rw [← f 73 83 (by omega) (by omega) (by omega)]; exact z2)) fc (fun i => f2 149 i (by omega)) (hv a3)
theorem xt_dl (h : XTr n w S) (h16 : S'.1 0 16 = 0) (h119 : S'.1 73 119 = 0) (hf : ∀ c k, ¬ dlE c k → S'.1 c k = S.1 c k) (hf2 : ∀ c k, ¬ c = 119 → S'.2 c k = S.2 c k) : XTr n w S' := by
  refine ⟨fun z => MEA_fr (h.1 (by rw [← hf 73 83 (by unfold dlE; omega)]; exact z)) (fun c k z => hf c k (by unfold dlE; unfold cvR at z; omega)) (fun c k z => hf c k (by unfold dlE; omega)) (fun k => hf2 82 k (by omega)), fun z1 => absurd h16 z1, fun z1 => absurd h119 z1⟩
theorem tdV_cg {b b' : Nat → Nat} : ∀ m, (∀ j, j < m → b j = b' j) → tdV b m = tdV b' m
  | 0, _ => rfl
  | m + 1, h => by
    show tdV b m + b m * 2 ^ m = tdV b' m + b' m * 2 ^ m
    rw [tdV_cg m (fun j hj => h j (by omega)), h m (by omega)]
/-- truth() on both: one answer -/
theorem o_truth (hg : ip_gk (lg_tbl, vwCl, Gr)) (hn : 2 ≤ n ∧ n ≤ 16) (hw : 1 ≤ w ∧ w ≤ 32) (hA : iAl n w S) (hT : XTr n w S) : ∃ (v : Int64) (S1 : zS), ip_RnM l (lg_tbl, vwCl, Gr) M_H_truth (d + 11) [.ref 32, .int x] (zP (zc n w) 168 S) (some (.long v), zP (zc n w) 168 S1) ∧ ∃ S2 : zS, ip_RnM l (lg_tbl, vwCl, Gr) M_Mo_truth (d + 11) [.ref 105, .int x] (zP (zc n w) 168 S1) (some (.long v), zP (zc n w) 168 S2) ∧ iAl n w S2 ∧ XTr n w S2 := by
  have c8 : zW l Gr (zc n w) 168 M_H_truth (d + 11) 8 [none, none, none, none, none] [] S (fun v S' => ∃ x, v = some (.long x) ∧ x = -1 ∧ S' = S) := b_H_truth_8 ⟨_, rfl, rfl, rfl⟩
  have m19 : zW l Gr (zc n w) 168 M_Mo_truth (d + 11) 19 [none, none] [] S (fun v S' => ∃ x, v = some (.long x) ∧ x = -1 ∧ S' = S) := b_Mo_truth_19 ⟨_, rfl, rfl, rfl⟩
  have c0 : (S.1 0 14 = 0 ∨ x < 0 ∨ S.1 24 11 ≤ x) → zMl l Gr (zc n w) 168 M_H_truth (d + 11) [.ref 32, .int x] S (fun v S' => v = -1 ∧ S' = S) := fun h => by
    refine e_H_truth (b_H_truth_0 hg (cl_has0 h) (fun v S1 e => ?_))
    obtain ⟨rfl, rfl⟩ := e
    exact b_H_truth_5 (fun y => absurd rfl y) (fun _ => c8)
  have same : zMl l Gr (zc n w) 168 M_H_truth (d + 11) [.ref 32, .int x] S (fun v S' => v = -1 ∧ S' = S) → zMl l Gr (zc n w) 168 M_Mo_truth (d + 11) [.ref 105, .int x] S (fun v S' => v = -1 ∧ S' = S) → ∃ (v : Int64) (S1 : zS), ip_RnM l (lg_tbl, vwCl, Gr) M_H_truth (d + 11) [.ref 32, .int x] (zP (zc n w) 168 S) (some (.long v), zP (zc n w) 168 S1) ∧ ∃ S2 : zS, ip_RnM l (lg_tbl, vwCl, Gr) M_Mo_truth (d + 11) [.ref 105, .int x] (zP (zc n w) 168 S1) (some (.long v), zP (zc n w) 168 S2) ∧ iAl n w S2 ∧ XTr n w S2 := fun h1 h2 => by
    have hr : roL l Gr n w (d + 11) M_H_truth M_Mo_truth [.int x] S := ro_l h1 h2
    obtain ⟨v, q1, q2⟩ := hr
    exact ⟨v, S, q1, S, q2, hA, hT⟩
  rcases hA.2.2.1 with ⟨h14, h83, -⟩ | ⟨h14, h83, -⟩
  · exact same (c0 (Or.inl h14)) (e_Mo_truth (b_Mo_truth_0 (fun _ => m19) (fun y => absurd h83 y)))
  · obtain ⟨G, wb, iw, no, bo, hF, hz, hno, hO, -, hv⟩ := ve_f hn hw hA h14
    have n83 : ¬ S.1 73 83 = 0 := by rw [h83]; decide
    by_cases z1 : x < 0
    · exact same (c0 (Or.inr (Or.inl z1))) (e_Mo_truth (b_Mo_truth_0 (fun y => absurd y n83) (fun _ => b_Mo_truth_7 (fun _ => m19) (fun y => absurd z1 y))))
    · obtain ⟨k, hk, rfl⟩ := nI_of z1
      by_cases zk : k < no
      · obtain ⟨m, hm, m1, m2, m3⟩ := hO.2.2.2.2 k zk
        have hm32 : m ≤ 32 := by omega
        obtain ⟨_, S1, ⟨v, rfl, V, v1, rfl, r16, r33, fr, fr2⟩, e1⟩ := w_truth (l := l) (Gr := Gr) (d := d + 8) hg hn hw h14 hF hz hno hO (fun a ha => ⟨(hv a ha).1, (hv a ha).2.1⟩) (fun z => hT.2.1 z h14) zk m1 hm
        have cR : ∀ c i, cvR c i → S1.1 c i = S.1 c i := fun c i z => fr c i (by unfold cvR at z; omega) (by unfold cvR at z; omega)
        have ck : (nI k).toNatClampNeg = k := nI_clamp (by omega)
        have vk : vp_in (nI k) 500 := vp_in_nI (by omega) (by omega)
        have o69 : S1.1 73 69 = nI no := by rw [fr 73 69 (by omega) (by omega)]; exact hO.2.1
        have hMo : zMl l Gr (zc n w) 168 M_Mo_truth (d + 11) [.ref 105, .int (nI k)] S1 (fun y S' => y = lN (tdV (fun j => litV V (S.1 121 (32 * k + j))) m) ∧ owV S S' no V ∧ ¬ S'.1 73 119 = 0 ∧ FMn S1 S') := by
          refine e_Mo_truth (b_Mo_truth_0 (fun y => absurd (by rw [fr 73 83 (by omega) (by omega)] at y; exact y) n83) (fun _ => b_Mo_truth_7 (fun y => absurd y z1) (fun _ => b_Mo_truth_11 (fun _ => b_Mo_truth_23 (fun y => ?_) (fun y => b_Mo_truth_30 hg (hT.1 h83 G wb iw no hz l Gr d S1 (vmE S) V hg (fun c i z => fr c i (by omega) (by omega)) (fun i => fr2 82 i) (fun a ha => ?_) v1) (fun S2 e => ?_))) (fun y => absurd (by rw [o69]; exact (nI_ltI (by omega) (by omega)).mpr zk) y))))
          · have y' : ¬ S.1 73 119 = 0 := by rw [← fr 73 119 (by omega) (by omega)]; exact y
            have ow := hT.2.2 y' h83 G wb iw no hz V v1
            have ow1 : owV S S1 no V := fun k' m' q1 q2 q3 => by rw [fr2 149 k']; exact ow k' m' q1 q2 q3
            refine b_Mo_truth_34 vk ⟨_, rfl, ?_, ow1, y, fun _ _ _ _ => rfl, fun _ _ _ => rfl⟩
            rw [ck]
            exact ow1 k m zk hm32 m1
          · rw [fr 73 124 (by omega) (by omega), fr2 118 a, fr2 119 a]
            exact ⟨(hv a ha).1, (hv a ha).2.2⟩
          · obtain ⟨q1, q2, q3⟩ := e
            refine b_Mo_truth_34 vk ⟨_, rfl, ?_, q1, by rw [q2]; decide, q3⟩
            rw [ck]
            exact q1 k m zk hm32 m1
        obtain ⟨_, S2, ⟨v, rfl, rfl, p1, p2, p3, p4⟩, e2⟩ := hMo
        have fr' : ∀ c i, ¬ c = 33 → ¬ (c = 0 ∧ i = 16) → ¬ (c = 73 ∧ (i = 110 ∨ i = 115 ∨ i = 118 ∨ i = 119)) → ¬ (c = 144 ∨ c = 145) → S2.1 c i = S.1 c i := fun c i z1 z2 z3 z4 => (p3 c i z3 z4).trans (fr c i z1 z2)
        have fr2' : ∀ c i, ¬ (c = 141 ∨ c = 142 ∨ c = 147 ∨ c = 148 ∨ c = 149) → S2.2 c i = S.2 c i := fun c i z => (p4 c i z).trans (fr2 c i)
        have fd : ∀ c i, dlR c i → S2.1 c i = S.1 c i := fun c i z => by
          by_cases y : c = 33
          · unfold dlR at z
            omega
          · exact fr' c i y (by unfold dlR at z; omega) (by unfold dlR at z; omega) (by unfold dlR at z; omega)
        have fcv : ∀ c i, cvR c i → S2.1 c i = S.1 c i := fun c i z => fr' c i (by unfold cvR at z; omega) (by unfold cvR at z; omega) (by unfold cvR at z; omega) (by unfold cvR at z; omega)
        have hvE : ∀ a, vmE S2 a = vmE S a := vmE_cg (fr' 0 15 (by omega) (by omega) (by omega) (by omega)) (fun a => fr' 21 a (by omega) (by omega) (by omega) (by omega)) (fun a => fr' 22 a (by omega) (by omega) (by omega) (by omega))
        have h21 : ∀ a bt, (bt = 1 ∨ bt = w) → S.1 19 a = nI bt → IVa bt (S.1 21 a) (S.2 118 a) → IVa bt (S2.1 21 a) (S2.2 118 a) := fun a bt _ _ z => by rw [fr' 21 a (by omega) (by omega) (by omega) (by omega), fr2' 118 a (by omega)]; exact z
        refine ⟨_, S1, e1, S2, e2, ⟨iRT_fr hA.1 (fun c i z => fr' c i (by omega) (by omega) (by omega) (by omega)), iDR_fr hA.2.1 (fun c i z => fr' c i (by omega) (by omega) (by omega) (by omega)), iBt_fr hA.2.2.1 fd h21, iDl_fr hA.2.2.2.1 fd h21 (fun a => fr2' 119 a (by omega)), ?_, ?_⟩, ⟨fun _ => MEA_fr (hT.1 h83) fcv (fun c i z => fr' c i (by omega) (by omega) (by omega) (by omega)) (fun i => fr2' 82 i (by omega)), fun _ _ G' wb' iw' no' hs => ?_, fun _ _ G' wb' iw' no' hs V' hV' => ?_⟩⟩
        · rw [fr' 3 5 (by omega) (by omega) (by omega) (by omega), fr' 73 7 (by omega) (by omega) (by omega) (by omega)]
          exact hA.2.2.2.2.1
        · rw [fr' 3 5 (by omega) (by omega) (by omega) (by omega), fr' 3 6 (by omega) (by omega) (by omega) (by omega), fr' 73 8 (by omega) (by omega) (by omega) (by omega)]
          exact hA.2.2.2.2.2
        · have hs' := szC_fr hs fcv
          obtain ⟨s1, s2, s3, s4, s5, s6, s7, s8⟩ := hs'
          obtain ⟨t1, t2, t3, t4, t5, t6, t7, t8⟩ := hz
          have e1 : G' = G := (nI_eq (by omega) (by omega)).mp (s5.symm.trans t5)
          have e2 : wb' = wb := (nI_eq (by omega) (by omega)).mp (s6.symm.trans t6)
          have e3 : iw' = iw := (nI_eq (by omega) (by omega)).mp (s7.symm.trans t7)
          subst e1 e2 e3
          exact ⟨V, CVs_fr (S := S2) (S' := S) (fun c i z => (fcv c i z).symm) (fun a _ => (hvE a).symm) v1, fun t ht => by rw [p3 33 t (by omega) (by omega)]; exact r33 t ht⟩
        · have hs' := szC_fr hs fcv
          obtain ⟨s1, s2, s3, s4, s5, s6, s7, s8⟩ := hs'
          obtain ⟨t1, t2, t3, t4, t5, t6, t7, t8⟩ := hz
          have e1 : G' = G := (nI_eq (by omega) (by omega)).mp (s5.symm.trans t5)
          have e2 : wb' = wb := (nI_eq (by omega) (by omega)).mp (s6.symm.trans t6)
          have e3 : iw' = iw := (nI_eq (by omega) (by omega)).mp (s7.symm.trans t7)
          have e4 : no' = no := (nI_eq (by omega) (by omega)).mp (s8.symm.trans t8)
          subst e1 e2 e3 e4
          have hV2 : CVs S G' wb' iw' (vmE S) V' := CVs_fr fcv (fun a _ => hvE a) hV'
          have un := CV_un hn.2 hw.2 hF v1 hV2 (wb' + G') (Nat.le_refl _)
          refine owV_fr fcv (fun k' m' q1 q2 q3 => ?_)
          obtain ⟨m'', hm'', n1, n2, n3⟩ := hO.2.2.2.2 k' q1
          have em : m'' = m' := (nI_eq (by omega) (by omega)).mp (n1.symm.trans q3)
          rw [p1 k' m' q1 q2 q3]
          congr 1
          refine tdV_cg m' (fun j hj => ?_)
          obtain ⟨f1, f2, f3, f4, f5, f6, f7, f8, f9, f10, -⟩ := hF
          show litV V (S.1 121 (32 * k' + j)) = litV V' (S.1 121 (32 * k' + j))
          have hvc := (n3 j (by omega)).2
          unfold litV
          by_cases z : S.1 121 (32 * k' + j) < 0
          · rw [if_pos z, if_pos z]
          · obtain ⟨a, ha, e⟩ := nI_of z
            rw [e] at hvc
            have hlt := vc_lt f1 (by omega) f10 f8 ha hvc
            rw [if_neg z, if_neg z, e, shr_n ha, nI_clamp (by omega), un (a / 2) (by omega)]
      · exact same (c0 (Or.inr (Or.inr (by rw [hO.1]; exact nI_le (by omega) (by omega))))) (e_Mo_truth (b_Mo_truth_0 (fun y => absurd y n83) (fun _ => b_Mo_truth_7 (fun y => absurd y z1) (fun _ => b_Mo_truth_11 (fun y => absurd (by rw [hO.2.1] at y; exact (nI_ltI (by omega) (by omega)).mp y) zk) (fun _ => m19)))))
/-- truth()'s memo through every turn but compile() -/
theorem xt_all (hg : ip_gk (lg_tbl, vwCl, Gr)) (hn : 2 ≤ n ∧ n ≤ 16) (hw : 1 ≤ w ∧ w ≤ 32) : xtC l Gr n w (q + 302) (XTr n w) := by
  refine ⟨fun S S' _ h _ hf h2 => XT_fr h (fun c k z => hf c k (by unfold frE; unfold xtR cvR at z; omega)) (fun c k _ => h2 c k), fun S k m hA h _ _ => xt_gv hA h, fun S S' _ h _ _ _ h16 h119 hf hf2 => xt_dl h h16 h119 hf hf2, trivial, fun S x hA hT => o_truth (d := q + 291) hg hn hw hA hT⟩
end XTA
