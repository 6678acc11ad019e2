set_option maxRecDepth 100000 in
theorem b_H_look_0 {l : Launch} {Gr : zG} {n w : Nat} {d : Nat} {S : zS} {Q : Option Value → zS → Prop} {x1 : Int32}  (k0 : x1 < 1 → zW l Gr (zc n w) 168 M_H_look (d + 1) 28 [some (.ref 32), some (.int x1)] [] S Q) (k1 : ¬ x1 < 1 → zW l Gr (zc n w) 168 M_H_look (d + 1) 5 [some (.ref 32), some (.int x1)] [] S Q) : zW l Gr (zc n w) 168 M_H_look (d + 1) 0 [some (.ref 32), some (.int x1)] [] S Q := by
  refine z_go (Gr := Gr) (zc := zc n w) (K := 168) oV_H_look 2 (pc' := 2) (L' := [some (.ref 32), some (.int x1)]) (st' := [.int 1, .int x1]) rfl ?_
  exact z_iclt (Gr := Gr) (tgt := 28) (oV_H_look.1 (2, .if_icmp .lt 26) (ip_lk_mem rfl)) (by decide) (fun q => (k0 q)) (fun q => (k1 q))
set_option maxRecDepth 100000 in
theorem b_H_look_28 {l : Launch} {Gr : zG} {n w : Nat} {d : Nat} {S : zS} {Q : Option Value → zS → Prop} {x1 : Int32}  (k0 : x1 = 0 → zW l Gr (zc n w) 168 M_H_look (d + 1) 104 [some (.ref 32), none] [] S Q) (k1 : x1 = 9 → zW l Gr (zc n w) 168 M_H_look (d + 1) 112 [some (.ref 32), none] [] S Q) (k2 : x1 = 10 → zW l Gr (zc n w) 168 M_H_look (d + 1) 131 [some (.ref 32), none] [] S Q) (k3 : x1 = 11 → zW l Gr (zc n w) 168 M_H_look (d + 1) 150 [some (.ref 32), none] [] S Q) (k4 : x1 = 12 → zW l Gr (zc n w) 168 M_H_look (d + 1) 169 [some (.ref 32), none] [] S Q) (k5 : x1 = 13 → zW l Gr (zc n w) 168 M_H_look (d + 1) 193 [some (.ref 32), none] [] S Q) (k6 : x1 = 14 → zW l Gr (zc n w) 168 M_H_look (d + 1) 201 [some (.ref 32), none] [] S Q) (k7 : ¬ x1 = 0 → ¬ x1 = 9 → ¬ x1 = 10 → ¬ x1 = 11 → ¬ x1 = 12 → ¬ x1 = 13 → ¬ x1 = 14 → zW l Gr (zc n w) 168 M_H_look (d + 1) 209 [none, none] [] S Q) : zW l Gr (zc n w) 168 M_H_look (d + 1) 28 [some (.ref 32), some (.int x1)] [] S Q := by
  refine z_go (Gr := Gr) (zc := zc n w) (K := 168) oV_H_look 1 (pc' := 29) (L' := [some (.ref 32), some (.int x1)]) (st' := [.int x1]) rfl ?_
  by_cases q0 : x1 = 0
  · exact z_tabI (Gr := Gr) (tgt := 104) (oV_H_look.1 (29, .tableswitch 180 0 14 #[75, 180, 180, 180, 180, 180, 180, 180, 180, 83, 102, 121, 140, 164, 172]) (ip_lk_mem rfl)) (by rw [q0]; decide) (by rw [q0]; decide) (off := 75) (by rw [q0]; rfl) (by decide) (z_forget (k0 q0) (And.intro rfl trivial))
  by_cases q9 : x1 = 9
  · exact z_tabI (Gr := Gr) (tgt := 112) (oV_H_look.1 (29, .tableswitch 180 0 14 #[75, 180, 180, 180, 180, 180, 180, 180, 180, 83, 102, 121, 140, 164, 172]) (ip_lk_mem rfl)) (by rw [q9]; decide) (by rw [q9]; decide) (off := 83) (by rw [q9]; rfl) (by decide) (z_forget (k1 q9) (And.intro rfl trivial))
  by_cases q10 : x1 = 10
  · exact z_tabI (Gr := Gr) (tgt := 131) (oV_H_look.1 (29, .tableswitch 180 0 14 #[75, 180, 180, 180, 180, 180, 180, 180, 180, 83, 102, 121, 140, 164, 172]) (ip_lk_mem rfl)) (by rw [q10]; decide) (by rw [q10]; decide) (off := 102) (by rw [q10]; rfl) (by decide) (z_forget (k2 q10) (And.intro rfl trivial))
  by_cases q11 : x1 = 11
  · exact z_tabI (Gr := Gr) (tgt := 150) (oV_H_look.1 (29, .tableswitch 180 0 14 #[75, 180, 180, 180, 180, 180, 180, 180, 180, 83, 102, 121, 140, 164, 172]) (ip_lk_mem rfl)) (by rw [q11]; decide) (by rw [q11]; decide) (off := 121) (by rw [q11]; rfl) (by decide) (z_forget (k3 q11) (And.intro rfl trivial))
  by_cases q12 : x1 = 12
  · exact z_tabI (Gr := Gr) (tgt := 169) (oV_H_look.1 (29, .tableswitch 180 0 14 #[75, 180, 180, 180, 180, 180, 180, 180, 180, 83, 102, 121, 140, 164, 172]) (ip_lk_mem rfl)) (by rw [q12]; decide) (by rw [q12]; decide) (off := 140) (by rw [q12]; rfl) (by decide) (z_forget (k4 q12) (And.intro rfl trivial))
  by_cases q13 : x1 = 13
  · exact z_tabI (Gr := Gr) (tgt := 193) (oV_H_look.1 (29, .tableswitch 180 0 14 #[75, 180, 180, 180, 180, 180, 180, 180, 180, 83, 102, 121, 140, 164, 172]) (ip_lk_mem rfl)) (by rw [q13]; decide) (by rw [q13]; decide) (off := 164) (by rw [q13]; rfl) (by decide) (z_forget (k5 q13) (And.intro rfl trivial))
  by_cases q14 : x1 = 14
  · exact z_tabI (Gr := Gr) (tgt := 201) (oV_H_look.1 (29, .tableswitch 180 0 14 #[75, 180, 180, 180, 180, 180, 180, 180, 180, 83, 102, 121, 140, 164, 172]) (ip_lk_mem rfl)) (by rw [q14]; decide) (by rw [q14]; decide) (off := 172) (by rw [q14]; rfl) (by decide) (z_forget (k6 q14) (And.intro rfl trivial))
  by_cases q1 : x1 = 1
  · exact z_tabI (Gr := Gr) (tgt := 209) (oV_H_look.1 (29, .tableswitch 180 0 14 #[75, 180, 180, 180, 180, 180, 180, 180, 180, 83, 102, 121, 140, 164, 172]) (ip_lk_mem rfl)) (by rw [q1]; decide) (by rw [q1]; decide) (off := 180) (by rw [q1]; rfl) (by decide) (z_forget (k7 q0 q9 q10 q11 q12 q13 q14) trivial)
  by_cases q2 : x1 = 2
  · exact z_tabI (Gr := Gr) (tgt := 209) (oV_H_look.1 (29, .tableswitch 180 0 14 #[75, 180, 180, 180, 180, 180, 180, 180, 180, 83, 102, 121, 140, 164, 172]) (ip_lk_mem rfl)) (by rw [q2]; decide) (by rw [q2]; decide) (off := 180) (by rw [q2]; rfl) (by decide) (z_forget (k7 q0 q9 q10 q11 q12 q13 q14) trivial)
  by_cases q3 : x1 = 3
  · exact z_tabI (Gr := Gr) (tgt := 209) (oV_H_look.1 (29, .tableswitch 180 0 14 #[75, 180, 180, 180, 180, 180, 180, 180, 180, 83, 102, 121, 140, 164, 172]) (ip_lk_mem rfl)) (by rw [q3]; decide) (by rw [q3]; decide) (off := 180) (by rw [q3]; rfl) (by decide) (z_forget (k7 q0 q9 q10 q11 q12 q13 q14) trivial)
  by_cases q4 : x1 = 4
  · exact z_tabI (Gr := Gr) (tgt := 209) (oV_H_look.1 (29, .tableswitch 180 0 14 #[75, 180, 180, 180, 180, 180, 180, 180, 180, 83, 102, 121, 140, 164, 172]) (ip_lk_mem rfl)) (by rw [q4]; decide) (by rw [q4]; decide) (off := 180) (by rw [q4]; rfl) (by decide) (z_forget (k7 q0 q9 q10 q11 q12 q13 q14) trivial)
  by_cases q5 : x1 = 5
  · exact z_tabI (Gr := Gr) (tgt := 209) (oV_H_look.1 (29, .tableswitch 180 0 14 #[75, 180, 180, 180, 180, 180, 180, 180, 180, 83, 102, 121, 140, 164, 172]) (ip_lk_mem rfl)) (by rw [q5]; decide) (by rw [q5]; decide) (off := 180) (by rw [q5]; rfl) (by decide) (z_forget (k7 q0 q9 q10 q11 q12 q13 q14) trivial)
  by_cases q6 : x1 = 6
  · exact z_tabI (Gr := Gr) (tgt := 209) (oV_H_look.1 (29, .tableswitch 180 0 14 #[75, 180, 180, 180, 180, 180, 180, 180, 180, 83, 102, 121, 140, 164, 172]) (ip_lk_mem rfl)) (by rw [q6]; decide) (by rw [q6]; decide) (off := 180) (by rw [q6]; rfl) (by decide) (z_forget (k7 q0 q9 q10 q11 q12 q13 q14) trivial)
  by_cases q7 : x1 = 7
  · exact z_tabI (Gr := Gr) (tgt := 209) (oV_H_look.1 (29, .tableswitch 180 0 14 #[75, 180, 180, 180, 180, 180, 180, 180, 180, 83, 102, 121, 140, 164, 172]) (ip_lk_mem rfl)) (by rw [q7]; decide) (by rw [q7]; decide) (off := 180) (by rw [q7]; rfl) (by decide) (z_forget (k7 q0 q9 q10 q11 q12 q13 q14) trivial)
  by_cases q8 : x1 = 8
  · exact z_tabI (Gr := Gr) (tgt := 209) (oV_H_look.1 (29, .tableswitch 180 0 14 #[75, 180, 180, 180, 180, 180, 180, 180, 180, 83, 102, 121, 140, 164, 172]) (ip_lk_mem rfl)) (by rw [q8]; decide) (by rw [q8]; decide) (off := 180) (by rw [q8]; rfl) (by decide) (z_forget (k7 q0 q9 q10 q11 q12 q13 q14) trivial)
  have hO : (x1).toInt < 0 ∨ 14 < (x1).toInt := by
    have r0 : ¬ (x1).toInt = 0 := fun h => q0 (Int32.toInt_inj.mp h)
    have r1 : ¬ (x1).toInt = 1 := fun h => q1 (Int32.toInt_inj.mp h)
    have r2 : ¬ (x1).toInt = 2 := fun h => q2 (Int32.toInt_inj.mp h)
    have r3 : ¬ (x1).toInt = 3 := fun h => q3 (Int32.toInt_inj.mp h)
    have r4 : ¬ (x1).toInt = 4 := fun h => q4 (Int32.toInt_inj.mp h)
    have r5 : ¬ (x1).toInt = 5 := fun h => q5 (Int32.toInt_inj.mp h)
    have r6 : ¬ (x1).toInt = 6 := fun h => q6 (Int32.toInt_inj.mp h)
    have r7 : ¬ (x1).toInt = 7 := fun h => q7 (Int32.toInt_inj.mp h)
    have r8 : ¬ (x1).toInt = 8 := fun h => q8 (Int32.toInt_inj.mp h)
    have r9 : ¬ (x1).toInt = 9 := fun h => q9 (Int32.toInt_inj.mp h)
    have r10 : ¬ (x1).toInt = 10 := fun h => q10 (Int32.toInt_inj.mp h)
    have r11 : ¬ (x1).toInt = 11 := fun h => q11 (Int32.toInt_inj.mp h)
    have r12 : ¬ (x1).toInt = 12 := fun h => q12 (Int32.toInt_inj.mp h)
    have r13 : ¬ (x1).toInt = 13 := fun h => q13 (Int32.toInt_inj.mp h)
    have r14 : ¬ (x1).toInt = 14 := fun h => q14 (Int32.toInt_inj.mp h)
    omega
  exact z_tabO (Gr := Gr) (tgt := 209) (oV_H_look.1 (29, .tableswitch 180 0 14 #[75, 180, 180, 180, 180, 180, 180, 180, 180, 83, 102, 121, 140, 164, 172]) (ip_lk_mem rfl)) hO (by decide) (z_forget (k7 q0 q9 q10 q11 q12 q13 q14) trivial)
set_option maxRecDepth 100000 in
theorem b_H_look_5 {l : Launch} {Gr : zG} {n w : Nat} {d : Nat} {S : zS} {Q : Option Value → zS → Prop} {x1 : Int32}  (k0 : 8 < x1 → zW l Gr (zc n w) 168 M_H_look (d + 1) 28 [some (.ref 32), some (.int x1)] [] S Q) (k1 : ¬ 8 < x1 → zW l Gr (zc n w) 168 M_H_look (d + 1) 11 [some (.ref 32), some (.int x1)] [] S Q) : zW l Gr (zc n w) 168 M_H_look (d + 1) 5 [some (.ref 32), some (.int x1)] [] S Q := by
  refine z_go (Gr := Gr) (zc := zc n w) (K := 168) oV_H_look 2 (pc' := 8) (L' := [some (.ref 32), some (.int x1)]) (st' := [.int 8, .int x1]) rfl ?_
  exact z_icgt (Gr := Gr) (tgt := 28) (oV_H_look.1 (8, .if_icmp .gt 20) (ip_lk_mem rfl)) (by decide) (fun q => (k0 q)) (fun q => (k1 q))
set_option maxRecDepth 100000 in
theorem b_H_look_209 {l : Launch} {Gr : zG} {n w : Nat} {d : Nat} {S : zS} {Q : Option Value → zS → Prop}   (k0 : Q (some (.int (-1))) S) : zW l Gr (zc n w) 168 M_H_look (d + 1) 209 [none, none] [] S Q := by
  refine z_go (Gr := Gr) (zc := zc n w) (K := 168) oV_H_look 1 (pc' := 210) (L' := [none, none]) (st' := [.int (-1)]) rfl ?_
  exact z_ret (v := (some (.int (-1)))) (oV_H_look.1 (210, .ireturn) (ip_lk_mem rfl)) k0
set_option maxRecDepth 100000 in
theorem b_H_look_104 {l : Launch} {Gr : zG} {n w : Nat} {d : Nat} {S : zS} {Q : Option Value → zS → Prop}   (k0 : Q (some (.int (if S.1 3 5 = 0 then -1 else S.1 3 6))) S) : zW l Gr (zc n w) 168 M_H_look (d + 1) 104 [some (.ref 32), none] [] S Q := by
  refine z_go (Gr := Gr) (zc := zc n w) (K := 168) oV_H_look 3 (pc' := 111) (L' := [some (.ref 32), none]) (st' := [.int (if S.1 3 5 = 0 then -1 else S.1 3 6)]) rfl ?_
  exact z_ret (v := (some (.int (if S.1 3 5 = 0 then -1 else S.1 3 6)))) (oV_H_look.1 (111, .ireturn) (ip_lk_mem rfl)) k0
set_option maxRecDepth 100000 in
theorem b_H_look_112 {l : Launch} {Gr : zG} {n w : Nat} {d : Nat} {S : zS} {Q : Option Value → zS → Prop}   (k0 : (S.1 0 15) = 0 → zW l Gr (zc n w) 168 M_H_look (d + 1) 129 [none, none] [] S Q) (k1 : ¬ (S.1 0 15) = 0 → zW l Gr (zc n w) 168 M_H_look (d + 1) 119 [some (.ref 32), none] [] S Q) : zW l Gr (zc n w) 168 M_H_look (d + 1) 112 [some (.ref 32), none] [] S Q := by
  refine z_go (Gr := Gr) (zc := zc n w) (K := 168) oV_H_look 2 (pc' := 116) (L' := [some (.ref 32), none]) (st' := [.int (S.1 0 15)]) rfl ?_
  exact z_ifeq (Gr := Gr) (tgt := 129) (oV_H_look.1 (116, .ifCond .eq 13) (ip_lk_mem rfl)) (by decide) (fun q => (z_forget (k0 q) trivial)) (fun q => (k1 q))
set_option maxRecDepth 100000 in
theorem b_H_look_131 {l : Launch} {Gr : zG} {n w : Nat} {d : Nat} {S : zS} {Q : Option Value → zS → Prop}   (k0 : (S.1 0 15) = 0 → zW l Gr (zc n w) 168 M_H_look (d + 1) 148 [none, none] [] S Q) (k1 : ¬ (S.1 0 15) = 0 → zW l Gr (zc n w) 168 M_H_look (d + 1) 138 [some (.ref 32), none] [] S Q) : zW l Gr (zc n w) 168 M_H_look (d + 1) 131 [some (.ref 32), none] [] S Q := by
  refine z_go (Gr := Gr) (zc := zc n w) (K := 168) oV_H_look 2 (pc' := 135) (L' := [some (.ref 32), none]) (st' := [.int (S.1 0 15)]) rfl ?_
  exact z_ifeq (Gr := Gr) (tgt := 148) (oV_H_look.1 (135, .ifCond .eq 13) (ip_lk_mem rfl)) (by decide) (fun q => (z_forget (k0 q) trivial)) (fun q => (k1 q))
set_option maxRecDepth 100000 in
theorem b_H_look_150 {l : Launch} {Gr : zG} {n w : Nat} {d : Nat} {S : zS} {Q : Option Value → zS → Prop}   (k0 : (S.1 0 15) = 0 → zW l Gr (zc n w) 168 M_H_look (d + 1) 167 [none, none] [] S Q) (k1 : ¬ (S.1 0 15) = 0 → zW l Gr (zc n w) 168 M_H_look (d + 1) 157 [some (.ref 32), none] [] S Q) : zW l Gr (zc n w) 168 M_H_look (d + 1) 150 [some (.ref 32), none] [] S Q := by
  refine z_go (Gr := Gr) (zc := zc n w) (K := 168) oV_H_look 2 (pc' := 154) (L' := [some (.ref 32), none]) (st' := [.int (S.1 0 15)]) rfl ?_
  exact z_ifeq (Gr := Gr) (tgt := 167) (oV_H_look.1 (154, .ifCond .eq 13) (ip_lk_mem rfl)) (by decide) (fun q => (z_forget (k0 q) trivial)) (fun q => (k1 q))
set_option maxRecDepth 100000 in
theorem b_H_look_169 {l : Launch} {Gr : zG} {n w : Nat} {d : Nat} {S : zS} {Q : Option Value → zS → Prop}   (k0 : (S.1 0 15) = 0 → zW l Gr (zc n w) 168 M_H_look (d + 1) 180 [some (.ref 32), none] [] S Q) (k1 : ¬ (S.1 0 15) = 0 → zW l Gr (zc n w) 168 M_H_look (d + 1) 176 [none, none] [] S Q) : zW l Gr (zc n w) 168 M_H_look (d + 1) 169 [some (.ref 32), none] [] S Q := by
  refine z_go (Gr := Gr) (zc := zc n w) (K := 168) oV_H_look 2 (pc' := 173) (L' := [some (.ref 32), none]) (st' := [.int (S.1 0 15)]) rfl ?_
  exact z_ifeq (Gr := Gr) (tgt := 180) (oV_H_look.1 (173, .ifCond .eq 7) (ip_lk_mem rfl)) (by decide) (fun q => (k0 q)) (fun q => (z_forget (k1 q) trivial))
set_option maxRecDepth 100000 in
theorem b_H_look_193 {l : Launch} {Gr : zG} {n w : Nat} {d : Nat} {S : zS} {Q : Option Value → zS → Prop}   (k0 : Q (some (.int (S.1 59 2))) S) : zW l Gr (zc n w) 168 M_H_look (d + 1) 193 [some (.ref 32), none] [] S Q := by
  refine z_go (Gr := Gr) (zc := zc n w) (K := 168) oV_H_look 3 (pc' := 200) (L' := [some (.ref 32), none]) (st' := [.int (S.1 59 2)]) rfl ?_
  exact z_ret (v := (some (.int (S.1 59 2)))) (oV_H_look.1 (200, .ireturn) (ip_lk_mem rfl)) k0
set_option maxRecDepth 100000 in
theorem b_H_look_201 {l : Launch} {Gr : zG} {n w : Nat} {d : Nat} {S : zS} {Q : Option Value → zS → Prop}   (k0 : Q (some (.int (S.1 59 4))) S) : zW l Gr (zc n w) 168 M_H_look (d + 1) 201 [some (.ref 32), none] [] S Q := by
  refine z_go (Gr := Gr) (zc := zc n w) (K := 168) oV_H_look 3 (pc' := 208) (L' := [some (.ref 32), none]) (st' := [.int (S.1 59 4)]) rfl ?_
  exact z_ret (v := (some (.int (S.1 59 4)))) (oV_H_look.1 (208, .ireturn) (ip_lk_mem rfl)) k0
set_option maxRecDepth 100000 in
theorem b_H_look_11 {l : Launch} {Gr : zG} {n w : Nat} {d : Nat} {S : zS} {Q : Option Value → zS → Prop} {x1 : Int32}  (k0 : (S.1 0 14) = 0 → zW l Gr (zc n w) 168 M_H_look (d + 1) 26 [none, none] [] S Q) (k1 : ¬ (S.1 0 14) = 0 → zW l Gr (zc n w) 168 M_H_look (d + 1) 18 [some (.ref 32), some (.int x1)] [] S Q) : zW l Gr (zc n w) 168 M_H_look (d + 1) 11 [some (.ref 32), some (.int x1)] [] S Q := by
  refine z_go (Gr := Gr) (zc := zc n w) (K := 168) oV_H_look 2 (pc' := 15) (L' := [some (.ref 32), some (.int x1)]) (st' := [.int (S.1 0 14)]) rfl ?_
  exact z_ifeq (Gr := Gr) (tgt := 26) (oV_H_look.1 (15, .ifCond .eq 11) (ip_lk_mem rfl)) (by decide) (fun q => (z_forget (k0 q) trivial)) (fun q => (k1 q))
set_option maxRecDepth 100000 in
theorem b_H_look_129 {l : Launch} {Gr : zG} {n w : Nat} {d : Nat} {S : zS} {Q : Option Value → zS → Prop}   (k0 : zW l Gr (zc n w) 168 M_H_look (d + 1) 130 [none, none] [.int 0] S Q) : zW l Gr (zc n w) 168 M_H_look (d + 1) 129 [none, none] [] S Q := by
  refine z_go (Gr := Gr) (zc := zc n w) (K := 168) oV_H_look 1 (pc' := 130) (L' := [none, none]) (st' := [.int 0]) rfl ?_
  exact k0
set_option maxRecDepth 100000 in
theorem b_H_look_119 {l : Launch} {Gr : zG} {n w : Nat} {d : Nat} {S : zS} {Q : Option Value → zS → Prop}   (k0 : zW l Gr (zc n w) 168 M_H_look (d + 1) 130 [none, none] [.int (S.1 65 10)] S Q) : zW l Gr (zc n w) 168 M_H_look (d + 1) 119 [some (.ref 32), none] [] S Q := by
  refine z_go (Gr := Gr) (zc := zc n w) (K := 168) oV_H_look 4 (pc' := 130) (L' := [some (.ref 32), none]) (st' := [.int (S.1 65 10)]) rfl ?_
  exact (z_forget k0 trivial)
set_option maxRecDepth 100000 in
theorem b_H_look_148 {l : Launch} {Gr : zG} {n w : Nat} {d : Nat} {S : zS} {Q : Option Value → zS → Prop}   (k0 : zW l Gr (zc n w) 168 M_H_look (d + 1) 149 [none, none] [.int 0] S Q) : zW l Gr (zc n w) 168 M_H_look (d + 1) 148 [none, none] [] S Q := by
  refine z_go (Gr := Gr) (zc := zc n w) (K := 168) oV_H_look 1 (pc' := 149) (L' := [none, none]) (st' := [.int 0]) rfl ?_
  exact k0
set_option maxRecDepth 100000 in
theorem b_H_look_138 {l : Launch} {Gr : zG} {n w : Nat} {d : Nat} {S : zS} {Q : Option Value → zS → Prop}   (k0 : zW l Gr (zc n w) 168 M_H_look (d + 1) 149 [none, none] [.int (S.1 65 11)] S Q) : zW l Gr (zc n w) 168 M_H_look (d + 1) 138 [some (.ref 32), none] [] S Q := by
  refine z_go (Gr := Gr) (zc := zc n w) (K := 168) oV_H_look 4 (pc' := 149) (L' := [some (.ref 32), none]) (st' := [.int (S.1 65 11)]) rfl ?_
  exact (z_forget k0 trivial)
set_option maxRecDepth 100000 in
theorem b_H_look_167 {l : Launch} {Gr : zG} {n w : Nat} {d : Nat} {S : zS} {Q : Option Value → zS → Prop}   (k0 : zW l Gr (zc n w) 168 M_H_look (d + 1) 168 [none, none] [.int 0] S Q) : zW l Gr (zc n w) 168 M_H_look (d + 1) 167 [none, none] [] S Q := by
  refine z_go (Gr := Gr) (zc := zc n w) (K := 168) oV_H_look 1 (pc' := 168) (L' := [none, none]) (st' := [.int 0]) rfl ?_
  exact k0
set_option maxRecDepth 100000 in
theorem b_H_look_157 {l : Launch} {Gr : zG} {n w : Nat} {d : Nat} {S : zS} {Q : Option Value → zS → Prop}   (k0 : zW l Gr (zc n w) 168 M_H_look (d + 1) 168 [none, none] [.int (S.1 65 12)] S Q) : zW l Gr (zc n w) 168 M_H_look (d + 1) 157 [some (.ref 32), none] [] S Q := by
  refine z_go (Gr := Gr) (zc := zc n w) (K := 168) oV_H_look 4 (pc' := 168) (L' := [some (.ref 32), none]) (st' := [.int (S.1 65 12)]) rfl ?_
  exact (z_forget k0 trivial)
set_option maxRecDepth 100000 in
theorem b_H_look_180 {l : Launch} {Gr : zG} {n w : Nat} {d : Nat} {S : zS} {Q : Option Value → zS → Prop}   (k0 : (S.1 0 14) = 0 → zW l Gr (zc n w) 168 M_H_look (d + 1) 191 [none, none] [] S Q) (k1 : ¬ (S.1 0 14) = 0 → zW l Gr (zc n w) 168 M_H_look (d + 1) 187 [none, none] [] S Q) : zW l Gr (zc n w) 168 M_H_look (d + 1) 180 [some (.ref 32), none] [] S Q := by
  refine z_go (Gr := Gr) (zc := zc n w) (K := 168) oV_H_look 2 (pc' := 184) (L' := [some (.ref 32), none]) (st' := [.int (S.1 0 14)]) rfl ?_
  exact z_ifeq (Gr := Gr) (tgt := 191) (oV_H_look.1 (184, .ifCond .eq 7) (ip_lk_mem rfl)) (by decide) (fun q => (z_forget (k0 q) trivial)) (fun q => (z_forget (k1 q) trivial))
set_option maxRecDepth 100000 in
theorem b_H_look_176 {l : Launch} {Gr : zG} {n w : Nat} {d : Nat} {S : zS} {Q : Option Value → zS → Prop}   (k0 : zW l Gr (zc n w) 168 M_H_look (d + 1) 192 [none, none] [.int 2] S Q) : zW l Gr (zc n w) 168 M_H_look (d + 1) 176 [none, none] [] S Q := by
  refine z_go (Gr := Gr) (zc := zc n w) (K := 168) oV_H_look 2 (pc' := 192) (L' := [none, none]) (st' := [.int 2]) rfl ?_
  exact k0
set_option maxRecDepth 100000 in
theorem b_H_look_26 {l : Launch} {Gr : zG} {n w : Nat} {d : Nat} {S : zS} {Q : Option Value → zS → Prop}   (k0 : zW l Gr (zc n w) 168 M_H_look (d + 1) 27 [none, none] [.int (-1)] S Q) : zW l Gr (zc n w) 168 M_H_look (d + 1) 26 [none, none] [] S Q := by
  refine z_go (Gr := Gr) (zc := zc n w) (K := 168) oV_H_look 1 (pc' := 27) (L' := [none, none]) (st' := [.int (-1)]) rfl ?_
  exact k0
set_option maxRecDepth 100000 in
theorem b_H_look_18 {l : Launch} {Gr : zG} {n w : Nat} {d : Nat} {S : zS} {Q : Option Value → zS → Prop} {R : Int32 → zS → Prop} (hg : ip_gk (lg_tbl, vwCl, Gr)) {x1 : Int32}  (k0 : zMi l Gr (zc n w) 168 M_H_lookAtCircuit d [.ref 32, .int x1] S R) (k1 : ∀ v S', R v S' → zW l Gr (zc n w) 168 M_H_look (d + 1) 23 [none, none] [.int v] S' Q) : zW l Gr (zc n w) 168 M_H_look (d + 1) 18 [some (.ref 32), some (.int x1)] [] S Q := by
  refine z_go (Gr := Gr) (zc := zc n w) (K := 168) oV_H_look 2 (pc' := 20) (L' := [some (.ref 32), some (.int x1)]) (st' := [.int x1, .ref 32]) rfl ?_
  exact z_callV (Gr := Gr) hg.2.2.1 fT oM_H_lookAtCircuit (oV_H_look.1 (20, .invokevirtual 166) (ip_lk_mem rfl)) ⟨tt_6 _ (List.mem_of_getElem? (i := 32) rfl) rfl, tt_6 _ (List.mem_of_getElem? (i := 34) rfl) rfl, fS_H_lookAtCircuit⟩ (c := 0) (ci := 11) (As := [.int x1]) rfl rfl rfl (by decide) rfl (Nat.le_of_ble_eq_true rfl) k0 (fun v S' q => by obtain ⟨x, rfl, q⟩ := q; exact (z_forget (k1 _ _ q) trivial))
set_option maxRecDepth 100000 in
theorem b_H_look_130 {l : Launch} {Gr : zG} {n w : Nat} {d : Nat} {S : zS} {Q : Option Value → zS → Prop} {s0 : Int32}  (k0 : Q (some (.int s0)) S) : zW l Gr (zc n w) 168 M_H_look (d + 1) 130 [none, none] [.int s0] S Q := by
  exact z_ret (v := (some (.int s0))) (oV_H_look.1 (130, .ireturn) (ip_lk_mem rfl)) k0
set_option maxRecDepth 100000 in
theorem b_H_look_149 {l : Launch} {Gr : zG} {n w : Nat} {d : Nat} {S : zS} {Q : Option Value → zS → Prop} {s0 : Int32}  (k0 : Q (some (.int s0)) S) : zW l Gr (zc n w) 168 M_H_look (d + 1) 149 [none, none] [.int s0] S Q := by
  exact z_ret (v := (some (.int s0))) (oV_H_look.1 (149, .ireturn) (ip_lk_mem rfl)) k0
set_option maxRecDepth 100000 in
theorem b_H_look_168 {l : Launch} {Gr : zG} {n w : Nat} {d : Nat} {S : zS} {Q : Option Value → zS → Prop} {s0 : Int32}  (k0 : Q (some (.int s0)) S) : zW l Gr (zc n w) 168 M_H_look (d + 1) 168 [none, none] [.int s0] S Q := by
  exact z_ret (v := (some (.int s0))) (oV_H_look.1 (168, .ireturn) (ip_lk_mem rfl)) k0
set_option maxRecDepth 100000 in
theorem b_H_look_191 {l : Launch} {Gr : zG} {n w : Nat} {d : Nat} {S : zS} {Q : Option Value → zS → Prop}   (k0 : zW l Gr (zc n w) 168 M_H_look (d + 1) 192 [none, none] [.int 0] S Q) : zW l Gr (zc n w) 168 M_H_look (d + 1) 191 [none, none] [] S Q := by
  refine z_go (Gr := Gr) (zc := zc n w) (K := 168) oV_H_look 1 (pc' := 192) (L' := [none, none]) (st' := [.int 0]) rfl ?_
  exact k0
set_option maxRecDepth 100000 in
theorem b_H_look_187 {l : Launch} {Gr : zG} {n w : Nat} {d : Nat} {S : zS} {Q : Option Value → zS → Prop}   (k0 : zW l Gr (zc n w) 168 M_H_look (d + 1) 192 [none, none] [.int 1] S Q) : zW l Gr (zc n w) 168 M_H_look (d + 1) 187 [none, none] [] S Q := by
  refine z_go (Gr := Gr) (zc := zc n w) (K := 168) oV_H_look 2 (pc' := 192) (L' := [none, none]) (st' := [.int 1]) rfl ?_
  exact k0
set_option maxRecDepth 100000 in
theorem b_H_look_192 {l : Launch} {Gr : zG} {n w : Nat} {d : Nat} {S : zS} {Q : Option Value → zS → Prop} {s0 : Int32}  (k0 : Q (some (.int s0)) S) : zW l Gr (zc n w) 168 M_H_look (d + 1) 192 [none, none] [.int s0] S Q := by
  exact z_ret (v := (some (.int s0))) (oV_H_look.1 (192, .ireturn) (ip_lk_mem rfl)) k0
set_option maxRecDepth 100000 in
theorem b_H_look_27 {l : Launch} {Gr : zG} {n w : Nat} {d : Nat} {S : zS} {Q : Option Value → zS → Prop} {s0 : Int32}  (k0 : Q (some (.int s0)) S) : zW l Gr (zc n w) 168 M_H_look (d + 1) 27 [none, none] [.int s0] S Q := by
  exact z_ret (v := (some (.int s0))) (oV_H_look.1 (27, .ireturn) (ip_lk_mem rfl)) k0
set_option maxRecDepth 100000 in
theorem b_H_look_23 {l : Launch} {Gr : zG} {n w : Nat} {d : Nat} {S : zS} {Q : Option Value → zS → Prop} {s0 : Int32}  (k0 : zW l Gr (zc n w) 168 M_H_look (d + 1) 27 [none, none] [.int s0] S Q) : zW l Gr (zc n w) 168 M_H_look (d + 1) 23 [none, none] [.int s0] S Q := by
  refine z_go (Gr := Gr) (zc := zc n w) (K := 168) oV_H_look 1 (pc' := 27) (L' := [none, none]) (st' := [.int s0]) rfl ?_
  exact k0
theorem e_H_look {l : Launch} {Gr : zG} {n w : Nat} {d : Nat} {S : zS} {R : Int32 → zS → Prop} {x1 : Int32} (k : zW l Gr (zc n w) 168 M_H_look (d + 1) 0 [some (.ref 32), some (.int x1)] [] S (fun v S' => ∃ x, v = some (.int x) ∧ R x S')) : zMi l Gr (zc n w) 168 M_H_look (d + 1) [.ref 32, .int x1] S R := z_mi oM_H_look rfl (Nat.le_of_ble_eq_true rfl) k
set_option maxRecDepth 100000 in
theorem b_H_literal_0 {l : Launch} {Gr : zG} {n w : Nat} {d : Nat} {S : zS} {Q : Option Value → zS → Prop} {R : Int32 → zS → Prop} (hg : ip_gk (lg_tbl, vwCl, Gr)) {x1 : Int32} {x2 : Int32}  (k0 : zMi l Gr (zc n w) 168 M_H_hasOutput d [.ref 32, .int x1] S R) (k1 : ∀ v S', R v S' → zW l Gr (zc n w) 168 M_H_literal (d + 1) 5 [some (.ref 32), some (.int x1), some (.int x2)] [.int v] S' Q) : zW l Gr (zc n w) 168 M_H_literal (d + 1) 0 [some (.ref 32), some (.int x1), some (.int x2)] [] S Q := by
  refine z_go (Gr := Gr) (zc := zc n w) (K := 168) oV_H_literal 2 (pc' := 2) (L' := [some (.ref 32), some (.int x1), some (.int x2)]) (st' := [.int x1, .ref 32]) rfl ?_
  exact z_callV (Gr := Gr) hg.2.2.1 fT oM_H_hasOutput (oV_H_literal.1 (2, .invokevirtual 204) (ip_lk_mem rfl)) ⟨tt_6 _ (List.mem_of_getElem? (i := 44) rfl) rfl, tt_6 _ (List.mem_of_getElem? (i := 46) rfl) rfl, fS_H_hasOutput⟩ (c := 0) (ci := 11) (As := [.int x1]) rfl rfl rfl (by decide) rfl (Nat.le_of_ble_eq_true rfl) k0 (fun v S' q => by obtain ⟨x, rfl, q⟩ := q; exact (k1 _ _ q))
set_option maxRecDepth 100000 in
theorem b_H_literal_5 {l : Launch} {Gr : zG} {n w : Nat} {d : Nat} {S : zS} {Q : Option Value → zS → Prop} {x1 : Int32} {x2 : Int32} {s0 : Int32}  (k0 : s0 = 0 → zW l Gr (zc n w) 168 M_H_literal (d + 1) 24 [none, none, none] [] S Q) (k1 : ¬ s0 = 0 → zW l Gr (zc n w) 168 M_H_literal (d + 1) 8 [some (.ref 32), some (.int x1), some (.int x2)] [] S Q) : zW l Gr (zc n w) 168 M_H_literal (d + 1) 5 [some (.ref 32), some (.int x1), some (.int x2)] [.int s0] S Q := by
  exact z_ifeq (Gr := Gr) (tgt := 24) (oV_H_literal.1 (5, .ifCond .eq 19) (ip_lk_mem rfl)) (by decide) (fun q => (z_forget (k0 q) trivial)) (fun q => (k1 q))
set_option maxRecDepth 100000 in
theorem b_H_literal_24 {l : Launch} {Gr : zG} {n w : Nat} {d : Nat} {S : zS} {Q : Option Value → zS → Prop}   (k0 : Q (some (.int (-3))) S) : zW l Gr (zc n w) 168 M_H_literal (d + 1) 24 [none, none, none] [] S Q := by
  refine z_go (Gr := Gr) (zc := zc n w) (K := 168) oV_H_literal 1 (pc' := 26) (L' := [none, none, none]) (st' := [.int (-3)]) rfl ?_
  exact z_ret (v := (some (.int (-3)))) (oV_H_literal.1 (26, .ireturn) (ip_lk_mem rfl)) k0
set_option maxRecDepth 100000 in
theorem b_H_literal_8 {l : Launch} {Gr : zG} {n w : Nat} {d : Nat} {S : zS} {Q : Option Value → zS → Prop} {x1 : Int32} {x2 : Int32}  (k0 : x2 < 0 → zW l Gr (zc n w) 168 M_H_literal (d + 1) 24 [none, none, none] [] S Q) (k1 : ¬ x2 < 0 → zW l Gr (zc n w) 168 M_H_literal (d + 1) 12 [some (.ref 32), some (.int x1), some (.int x2)] [] S Q) : zW l Gr (zc n w) 168 M_H_literal (d + 1) 8 [some (.ref 32), some (.int x1), some (.int x2)] [] S Q := by
  refine z_go (Gr := Gr) (zc := zc n w) (K := 168) oV_H_literal 1 (pc' := 9) (L' := [some (.ref 32), some (.int x1), some (.int x2)]) (st' := [.int x2]) rfl ?_
  exact z_iflt (Gr := Gr) (tgt := 24) (oV_H_literal.1 (9, .ifCond .lt 15) (ip_lk_mem rfl)) (by decide) (fun q => (z_forget (k0 q) trivial)) (fun q => (k1 q))
set_option maxRecDepth 100000 in
theorem b_H_literal_12 {l : Launch} {Gr : zG} {n w : Nat} {d : Nat} {S : zS} {Q : Option Value → zS → Prop} {R : Int32 → zS → Prop} (hg : ip_gk (lg_tbl, vwCl, Gr)) {x1 : Int32} {x2 : Int32}  (k0 : zMi l Gr (zc n w) 168 M_Circuit_outputBits d [.ref 56, .int x1] S R) (k1 : ∀ v S', R v S' → zW l Gr (zc n w) 168 M_H_literal (d + 1) 21 [some (.ref 32), some (.int x1), some (.int x2)] [.int v, .int x2] S' Q) : zW l Gr (zc n w) 168 M_H_literal (d + 1) 12 [some (.ref 32), some (.int x1), some (.int x2)] [] S Q := by
  refine z_go (Gr := Gr) (zc := zc n w) (K := 168) oV_H_literal 4 (pc' := 18) (L' := [some (.ref 32), some (.int x1), some (.int x2)]) (st' := [.int x1, .ref 56, .int x2]) rfl ?_
  exact z_callV (Gr := Gr) hg.2.2.1 fT oM_Circuit_outputBits (oV_H_literal.1 (18, .invokevirtual 207) (ip_lk_mem rfl)) ⟨tt_6 _ (List.mem_of_getElem? (i := 48) rfl) rfl, tt_6 _ (List.mem_of_getElem? (i := 49) rfl) rfl, tt_6 _ (List.mem_of_getElem? (i := 50) rfl) rfl⟩ (c := 24) (ci := 1) (As := [.int x1]) rfl rfl rfl (by decide) rfl (Nat.le_of_ble_eq_true rfl) k0 (fun v S' q => by obtain ⟨x, rfl, q⟩ := q; exact (k1 _ _ q))
set_option maxRecDepth 100000 in
theorem b_H_literal_21 {l : Launch} {Gr : zG} {n w : Nat} {d : Nat} {S : zS} {Q : Option Value → zS → Prop} {x1 : Int32} {x2 : Int32} {s0 : Int32} {s1 : Int32}  (k0 : s1 < s0 → zW l Gr (zc n w) 168 M_H_literal (d + 1) 27 [some (.ref 32), some (.int x1), some (.int x2)] [] S Q) (k1 : ¬ s1 < s0 → zW l Gr (zc n w) 168 M_H_literal (d + 1) 24 [none, none, none] [] S Q) : zW l Gr (zc n w) 168 M_H_literal (d + 1) 21 [some (.ref 32), some (.int x1), some (.int x2)] [.int s0, .int s1] S Q := by
  exact z_iclt (Gr := Gr) (tgt := 27) (oV_H_literal.1 (21, .if_icmp .lt 6) (ip_lk_mem rfl)) (by decide) (fun q => (k0 q)) (fun q => (z_forget (k1 q) trivial))
set_option maxRecDepth 100000 in
theorem b_H_literal_27 {l : Launch} {Gr : zG} {n w : Nat} {d : Nat} {S : zS} {Q : Option Value → zS → Prop} {R : Int32 → zS → Prop} (hg : ip_gk (lg_tbl, vwCl, Gr)) {x1 : Int32} {x2 : Int32}  (k0 : zMi l Gr (zc n w) 168 M_Circuit_outputLiteral d [.ref 56, .int x1, .int x2] S R) (k1 : ∀ v S', R v S' → zW l Gr (zc n w) 168 M_H_literal (d + 1) 36 [none, none, none] [.int v] S' Q) : zW l Gr (zc n w) 168 M_H_literal (d + 1) 27 [some (.ref 32), some (.int x1), some (.int x2)] [] S Q := by
  refine z_go (Gr := Gr) (zc := zc n w) (K := 168) oV_H_literal 4 (pc' := 33) (L' := [some (.ref 32), some (.int x1), some (.int x2)]) (st' := [.int x2, .int x1, .ref 56]) rfl ?_
  exact z_callV (Gr := Gr) hg.2.2.1 fT oM_Circuit_outputLiteral (oV_H_literal.1 (33, .invokevirtual 210) (ip_lk_mem rfl)) ⟨tt_6 _ (List.mem_of_getElem? (i := 52) rfl) rfl, tt_6 _ (List.mem_of_getElem? (i := 53) rfl) rfl, tt_6 _ (List.mem_of_getElem? (i := 54) rfl) rfl⟩ (c := 24) (ci := 1) (As := [.int x1, .int x2]) rfl rfl rfl (by decide) rfl (Nat.le_of_ble_eq_true rfl) k0 (fun v S' q => by obtain ⟨x, rfl, q⟩ := q; exact (z_forget (k1 _ _ q) trivial))
set_option maxRecDepth 100000 in
theorem b_H_literal_36 {l : Launch} {Gr : zG} {n w : Nat} {d : Nat} {S : zS} {Q : Option Value → zS → Prop} {s0 : Int32}  (k0 : Q (some (.int s0)) S) : zW l Gr (zc n w) 168 M_H_literal (d + 1) 36 [none, none, none] [.int s0] S Q := by
  exact z_ret (v := (some (.int s0))) (oV_H_literal.1 (36, .ireturn) (ip_lk_mem rfl)) k0
theorem e_H_literal {l : Launch} {Gr : zG} {n w : Nat} {d : Nat} {S : zS} {R : Int32 → zS → Prop} {x1 : Int32} {x2 : Int32} (k : zW l Gr (zc n w) 168 M_H_literal (d + 1) 0 [some (.ref 32), some (.int x1), some (.int x2)] [] S (fun v S' => ∃ x, v = some (.int x) ∧ R x S')) : zMi l Gr (zc n w) 168 M_H_literal (d + 1) [.ref 32, .int x1, .int x2] S R := z_mi oM_H_literal rfl (Nat.le_of_ble_eq_true rfl) k
set_option maxRecDepth 100000 in
theorem b_H_input_0 {l : Launch} {Gr : zG} {n w : Nat} {d : Nat} {S : zS} {Q : Option Value → zS → Prop} {x1 : Int32} {x2 : Int32}  (k0 : x1 < 0 → zW l Gr (zc n w) 168 M_H_input d 15 [none, none, none] [] S Q) (k1 : ¬ x1 < 0 → zW l Gr (zc n w) 168 M_H_input d 4 [some (.ref 32), some (.int x1), some (.int x2)] [] S Q) : zW l Gr (zc n w) 168 M_H_input d 0 [some (.ref 32), some (.int x1), some (.int x2)] [] S Q := by
  refine z_go (Gr := Gr) (zc := zc n w) (K := 168) oV_H_input 1 (pc' := 1) (L' := [some (.ref 32), some (.int x1), some (.int x2)]) (st' := [.int x1]) rfl ?_
  exact z_iflt (Gr := Gr) (tgt := 15) (oV_H_input.1 (1, .ifCond .lt 14) (ip_lk_mem rfl)) (by decide) (fun q => (z_forget (k0 q) trivial)) (fun q => (k1 q))
set_option maxRecDepth 100000 in
theorem b_H_input_15 {l : Launch} {Gr : zG} {n w : Nat} {d : Nat} {S : zS} {Q : Option Value → zS → Prop}   (k0 : Q (some (.long (-1))) S) : zW l Gr (zc n w) 168 M_H_input d 15 [none, none, none] [] S Q := by
  refine z_go (Gr := Gr) (zc := zc n w) (K := 168) oV_H_input 1 (pc' := 18) (L' := [none, none, none]) (st' := [.long (-1)]) rfl ?_
  exact z_ret (v := (some (.long (-1)))) (oV_H_input.1 (18, .lreturn) (ip_lk_mem rfl)) k0
set_option maxRecDepth 100000 in
theorem b_H_input_4 {l : Launch} {Gr : zG} {n w : Nat} {d : Nat} {S : zS} {Q : Option Value → zS → Prop} {x1 : Int32} {x2 : Int32}  (k0 : x1 < (S.1 17 6) → zW l Gr (zc n w) 168 M_H_input d 19 [some (.ref 32), some (.int x1), some (.int x2)] [] S Q) (k1 : ¬ x1 < (S.1 17 6) → zW l Gr (zc n w) 168 M_H_input d 15 [none, none, none] [] S Q) : zW l Gr (zc n w) 168 M_H_input d 4 [some (.ref 32), some (.int x1), some (.int x2)] [] S Q := by
  refine z_go (Gr := Gr) (zc := zc n w) (K := 168) oV_H_input 4 (pc' := 12) (L' := [some (.ref 32), some (.int x1), some (.int x2)]) (st' := [.int (S.1 17 6), .int x1]) rfl ?_
  exact z_iclt (Gr := Gr) (tgt := 19) (oV_H_input.1 (12, .if_icmp .lt 7) (ip_lk_mem rfl)) (by decide) (fun q => (k0 q)) (fun q => (z_forget (k1 q) trivial))
set_option maxRecDepth 100000 in
theorem b_H_input_19 {l : Launch} {Gr : zG} {n w : Nat} {d : Nat} {S : zS} {Q : Option Value → zS → Prop} {x1 : Int32} {x2 : Int32}  (k0 : x2 = 0 → zW l Gr (zc n w) 168 M_H_input d 48 [some (.ref 32), some (.int x1), none] [] S Q) (k1 : x2 = 1 → zW l Gr (zc n w) 168 M_H_input d 59 [some (.ref 32), some (.int x1), none] [] S Q) (k2 : x2 = 2 → zW l Gr (zc n w) 168 M_H_input d 70 [some (.ref 32), some (.int x1), none] [] S Q) (k3 : ¬ x2 = 0 → ¬ x2 = 1 → ¬ x2 = 2 → zW l Gr (zc n w) 168 M_H_input d 85 [none, none, none] [] S Q) : zW l Gr (zc n w) 168 M_H_input d 19 [some (.ref 32), some (.int x1), some (.int x2)] [] S Q := by
  refine z_go (Gr := Gr) (zc := zc n w) (K := 168) oV_H_input 1 (pc' := 20) (L' := [some (.ref 32), some (.int x1), some (.int x2)]) (st' := [.int x2]) rfl ?_
  by_cases q0 : x2 = 0
  · exact z_tabI (Gr := Gr) (tgt := 48) (oV_H_input.1 (20, .tableswitch 65 0 2 #[28, 39, 50]) (ip_lk_mem rfl)) (by rw [q0]; decide) (by rw [q0]; decide) (off := 28) (by rw [q0]; rfl) (by decide) (z_forget (k0 q0) (And.intro rfl (And.intro rfl trivial)))
  by_cases q1 : x2 = 1
  · exact z_tabI (Gr := Gr) (tgt := 59) (oV_H_input.1 (20, .tableswitch 65 0 2 #[28, 39, 50]) (ip_lk_mem rfl)) (by rw [q1]; decide) (by rw [q1]; decide) (off := 39) (by rw [q1]; rfl) (by decide) (z_forget (k1 q1) (And.intro rfl (And.intro rfl trivial)))
  by_cases q2 : x2 = 2
  · exact z_tabI (Gr := Gr) (tgt := 70) (oV_H_input.1 (20, .tableswitch 65 0 2 #[28, 39, 50]) (ip_lk_mem rfl)) (by rw [q2]; decide) (by rw [q2]; decide) (off := 50) (by rw [q2]; rfl) (by decide) (z_forget (k2 q2) (And.intro rfl (And.intro rfl trivial)))
  have hO : (x2).toInt < 0 ∨ 2 < (x2).toInt := by
    have r0 : ¬ (x2).toInt = 0 := fun h => q0 (Int32.toInt_inj.mp h)
    have r1 : ¬ (x2).toInt = 1 := fun h => q1 (Int32.toInt_inj.mp h)
    have r2 : ¬ (x2).toInt = 2 := fun h => q2 (Int32.toInt_inj.mp h)
    omega
  exact z_tabO (Gr := Gr) (tgt := 85) (oV_H_input.1 (20, .tableswitch 65 0 2 #[28, 39, 50]) (ip_lk_mem rfl)) hO (by decide) (z_forget (k3 q0 q1 q2) trivial)
set_option maxRecDepth 100000 in
theorem b_H_input_85 {l : Launch} {Gr : zG} {n w : Nat} {d : Nat} {S : zS} {Q : Option Value → zS → Prop}   (k0 : Q (some (.long (-1))) S) : zW l Gr (zc n w) 168 M_H_input d 85 [none, none, none] [] S Q := by
  refine z_go (Gr := Gr) (zc := zc n w) (K := 168) oV_H_input 1 (pc' := 88) (L' := [none, none, none]) (st' := [.long (-1)]) rfl ?_
  exact z_ret (v := (some (.long (-1)))) (oV_H_input.1 (88, .lreturn) (ip_lk_mem rfl)) k0
set_option maxRecDepth 100000 in
theorem b_H_input_48 {l : Launch} {Gr : zG} {n w : Nat} {d : Nat} {S : zS} {Q : Option Value → zS → Prop} {x1 : Int32} (g0 : vp_in x1 256) (k0 : Q (some (.long (((S.1 18 ((x1 : Int32).toNatClampNeg)) : Int32)).toInt64)) S) : zW l Gr (zc n w) 168 M_H_input d 48 [some (.ref 32), some (.int x1), none] [] S Q := by
  refine z_go (Gr := Gr) (zc := zc n w) (K := 168) oV_H_input 4 (pc' := 56) (L' := [some (.ref 32), some (.int x1), none]) (st' := [.int x1, .ref 50]) rfl ?_
  refine z_iald (Gr := Gr) (c := 18) (oV_H_input.1 (56, .iaload) (ip_lk_mem rfl)) (by decide) rfl g0 ?_
  refine z_go (Gr := Gr) (zc := zc n w) (K := 168) oV_H_input 1 (pc' := 58) (L' := [some (.ref 32), some (.int x1), none]) (st' := [.long (((S.1 18 ((x1 : Int32).toNatClampNeg)) : Int32)).toInt64]) rfl ?_
  exact z_ret (v := (some (.long (((S.1 18 ((x1 : Int32).toNatClampNeg)) : Int32)).toInt64))) (oV_H_input.1 (58, .lreturn) (ip_lk_mem rfl)) k0
set_option maxRecDepth 100000 in
theorem b_H_input_59 {l : Launch} {Gr : zG} {n w : Nat} {d : Nat} {S : zS} {Q : Option Value → zS → Prop} {x1 : Int32} (g0 : vp_in x1 256) (k0 : Q (some (.long (((S.1 19 ((x1 : Int32).toNatClampNeg)) : Int32)).toInt64)) S) : zW l Gr (zc n w) 168 M_H_input d 59 [some (.ref 32), some (.int x1), none] [] S Q := by
  refine z_go (Gr := Gr) (zc := zc n w) (K := 168) oV_H_input 4 (pc' := 67) (L' := [some (.ref 32), some (.int x1), none]) (st' := [.int x1, .ref 51]) rfl ?_
  refine z_iald (Gr := Gr) (c := 19) (oV_H_input.1 (67, .iaload) (ip_lk_mem rfl)) (by decide) rfl g0 ?_
  refine z_go (Gr := Gr) (zc := zc n w) (K := 168) oV_H_input 1 (pc' := 69) (L' := [some (.ref 32), some (.int x1), none]) (st' := [.long (((S.1 19 ((x1 : Int32).toNatClampNeg)) : Int32)).toInt64]) rfl ?_
  exact z_ret (v := (some (.long (((S.1 19 ((x1 : Int32).toNatClampNeg)) : Int32)).toInt64))) (oV_H_input.1 (69, .lreturn) (ip_lk_mem rfl)) k0
set_option maxRecDepth 100000 in
theorem b_H_input_70 {l : Launch} {Gr : zG} {n w : Nat} {d : Nat} {S : zS} {Q : Option Value → zS → Prop} {x1 : Int32} (g0 : vp_in x1 256) (k0 : Q (some (.long ((((S.1 21 ((x1 : Int32).toNatClampNeg)) : Int32)).toInt64 &&& 4294967295))) S) : zW l Gr (zc n w) 168 M_H_input d 70 [some (.ref 32), some (.int x1), none] [] S Q := by
  refine z_go (Gr := Gr) (zc := zc n w) (K := 168) oV_H_input 4 (pc' := 78) (L' := [some (.ref 32), some (.int x1), none]) (st' := [.int x1, .ref 53]) rfl ?_
  refine z_iald (Gr := Gr) (c := 21) (oV_H_input.1 (78, .iaload) (ip_lk_mem rfl)) (by decide) rfl g0 ?_
  refine z_go (Gr := Gr) (zc := zc n w) (K := 168) oV_H_input 3 (pc' := 84) (L' := [some (.ref 32), some (.int x1), none]) (st' := [.long ((((S.1 21 ((x1 : Int32).toNatClampNeg)) : Int32)).toInt64 &&& 4294967295)]) rfl ?_
  exact z_ret (v := (some (.long ((((S.1 21 ((x1 : Int32).toNatClampNeg)) : Int32)).toInt64 &&& 4294967295)))) (oV_H_input.1 (84, .lreturn) (ip_lk_mem rfl)) k0
theorem e_H_input {l : Launch} {Gr : zG} {n w : Nat} {d : Nat} {S : zS} {R : Int64 → zS → Prop} {x1 : Int32} {x2 : Int32} (k : zW l Gr (zc n w) 168 M_H_input d 0 [some (.ref 32), some (.int x1), some (.int x2)] [] S (fun v S' => ∃ x, v = some (.long x) ∧ R x S')) : zMl l Gr (zc n w) 168 M_H_input d [.ref 32, .int x1, .int x2] S R := z_ml oM_H_input rfl (Nat.le_of_ble_eq_true rfl) k
set_option maxRecDepth 100000 in
theorem b_H_give_0 {l : Launch} {Gr : zG} {n w : Nat} {d : Nat} {S : zS} {Q : Option Value → zS → Prop} {x1 : Int32} {x2 : Int32}  (k0 : x1 < 0 → zW l Gr (zc n w) 168 M_H_give d 15 [none, none, none] [] S Q) (k1 : ¬ x1 < 0 → zW l Gr (zc n w) 168 M_H_give d 4 [some (.ref 32), some (.int x1), some (.int x2)] [] S Q) : zW l Gr (zc n w) 168 M_H_give d 0 [some (.ref 32), some (.int x1), some (.int x2)] [] S Q := by
  refine z_go (Gr := Gr) (zc := zc n w) (K := 168) oV_H_give 1 (pc' := 1) (L' := [some (.ref 32), some (.int x1), some (.int x2)]) (st' := [.int x1]) rfl ?_
  exact z_iflt (Gr := Gr) (tgt := 15) (oV_H_give.1 (1, .ifCond .lt 14) (ip_lk_mem rfl)) (by decide) (fun q => (z_forget (k0 q) trivial)) (fun q => (k1 q))
set_option maxRecDepth 100000 in
theorem b_H_give_15 {l : Launch} {Gr : zG} {n w : Nat} {d : Nat} {S : zS} {Q : Option Value → zS → Prop}   (k0 : Q (some (.int 0)) S) : zW l Gr (zc n w) 168 M_H_give d 15 [none, none, none] [] S Q := by
  refine z_go (Gr := Gr) (zc := zc n w) (K := 168) oV_H_give 1 (pc' := 16) (L' := [none, none, none]) (st' := [.int 0]) rfl ?_
  exact z_ret (v := (some (.int 0))) (oV_H_give.1 (16, .ireturn) (ip_lk_mem rfl)) k0
set_option maxRecDepth 100000 in
theorem b_H_give_4 {l : Launch} {Gr : zG} {n w : Nat} {d : Nat} {S : zS} {Q : Option Value → zS → Prop} {x1 : Int32} {x2 : Int32}  (k0 : x1 < (S.1 17 6) → zW l Gr (zc n w) 168 M_H_give d 17 [some (.ref 32), some (.int x1), some (.int x2)] [] S Q) (k1 : ¬ x1 < (S.1 17 6) → zW l Gr (zc n w) 168 M_H_give d 15 [none, none, none] [] S Q) : zW l Gr (zc n w) 168 M_H_give d 4 [some (.ref 32), some (.int x1), some (.int x2)] [] S Q := by
  refine z_go (Gr := Gr) (zc := zc n w) (K := 168) oV_H_give 4 (pc' := 12) (L' := [some (.ref 32), some (.int x1), some (.int x2)]) (st' := [.int (S.1 17 6), .int x1]) rfl ?_
  exact z_iclt (Gr := Gr) (tgt := 17) (oV_H_give.1 (12, .if_icmp .lt 5) (ip_lk_mem rfl)) (by decide) (fun q => (k0 q)) (fun q => (z_forget (k1 q) trivial))
set_option maxRecDepth 100000 in
theorem b_H_give_17 {l : Launch} {Gr : zG} {n w : Nat} {d : Nat} {S : zS} {Q : Option Value → zS → Prop} {x1 : Int32} {x2 : Int32} (g0 : vp_in x1 256) (k0 : (S.1 0 16) = 0 → zW l Gr (zc n w) 168 M_H_give d 61 [none, none, none] [.ref 32] (zi S 21 ((x1 : Int32).toNatClampNeg) (x2 &&& ((((-1) : Int32)).toUInt32 >>> ((((32 - (S.1 19 ((x1 : Int32).toNatClampNeg))) : Int32)).toUInt32 &&& Int32.toUInt32 31)).toInt32)) Q) (k1 : ¬ (S.1 0 16) = 0 → zW l Gr (zc n w) 168 M_H_give d 50 [some (.ref 32), none, none] [.ref 32] (zi S 21 ((x1 : Int32).toNatClampNeg) (x2 &&& ((((-1) : Int32)).toUInt32 >>> ((((32 - (S.1 19 ((x1 : Int32).toNatClampNeg))) : Int32)).toUInt32 &&& Int32.toUInt32 31)).toInt32)) Q) : zW l Gr (zc n w) 168 M_H_give d 17 [some (.ref 32), some (.int x1), some (.int x2)] [] S Q := by
  refine z_go (Gr := Gr) (zc := zc n w) (K := 168) oV_H_give 11 (pc' := 37) (L' := [some (.ref 32), some (.int x1), some (.int x2)]) (st' := [.int x1, .ref 51, .int 32, .int (-1), .int x2, .int x1, .ref 53]) rfl ?_
  refine z_iald (Gr := Gr) (c := 19) (oV_H_give.1 (37, .iaload) (ip_lk_mem rfl)) (by decide) rfl g0 ?_
  refine z_go (Gr := Gr) (zc := zc n w) (K := 168) oV_H_give 3 (pc' := 41) (L' := [some (.ref 32), some (.int x1), some (.int x2)]) (st' := [.int (x2 &&& ((((-1) : Int32)).toUInt32 >>> ((((32 - (S.1 19 ((x1 : Int32).toNatClampNeg))) : Int32)).toUInt32 &&& Int32.toUInt32 31)).toInt32), .int x1, .ref 53]) rfl ?_
  refine z_iast (Gr := Gr) (c := 21) (oV_H_give.1 (41, .iastore) (ip_lk_mem rfl)) (by decide) (fun _ => rfl) g0 ?_
  refine z_go (Gr := Gr) (zc := zc n w) (K := 168) oV_H_give 2 (pc' := 44) (L' := [some (.ref 32), some (.int x1), some (.int x2)]) (st' := [.ref 32, .ref 32]) rfl ?_
  refine z_getI (Gr := Gr) (c := 0) (oV_H_give.1 (44, .getfield 138) (ip_lk_mem rfl)) (oV_H_give.2.1 (138, 11, 16, .boolean, false) (ip_lk_mem rfl)).1 (by decide) (zo_0 _ _ _ _) (zg_0_16 _ _ _ _) (zi_c (by decide)) ?_
  exact z_ifeq (Gr := Gr) (tgt := 61) (oV_H_give.1 (47, .ifCond .eq 14) (ip_lk_mem rfl)) (by decide) (fun q => (z_forget (k0 q) trivial)) (fun q => (z_forget (k1 q) (And.intro rfl trivial)))
set_option maxRecDepth 100000 in
theorem b_H_give_61 {l : Launch} {Gr : zG} {n w : Nat} {d : Nat} {S : zS} {Q : Option Value → zS → Prop}   (k0 : zW l Gr (zc n w) 168 M_H_give d 62 [none, none, none] [.int 0, .ref 32] S Q) : zW l Gr (zc n w) 168 M_H_give d 61 [none, none, none] [.ref 32] S Q := by
  refine z_go (Gr := Gr) (zc := zc n w) (K := 168) oV_H_give 1 (pc' := 62) (L' := [none, none, none]) (st' := [.int 0, .ref 32]) rfl ?_
  exact k0
set_option maxRecDepth 100000 in
theorem b_H_give_50 {l : Launch} {Gr : zG} {n w : Nat} {d : Nat} {S : zS} {Q : Option Value → zS → Prop}   (k0 : (S.1 0 15) = 0 → zW l Gr (zc n w) 168 M_H_give d 61 [none, none, none] [.ref 32] S Q) (k1 : ¬ (S.1 0 15) = 0 → zW l Gr (zc n w) 168 M_H_give d 57 [none, none, none] [.ref 32] S Q) : zW l Gr (zc n w) 168 M_H_give d 50 [some (.ref 32), none, none] [.ref 32] S Q := by
  refine z_go (Gr := Gr) (zc := zc n w) (K := 168) oV_H_give 2 (pc' := 54) (L' := [some (.ref 32), none, none]) (st' := [.int (S.1 0 15), .ref 32]) rfl ?_
  exact z_ifeq (Gr := Gr) (tgt := 61) (oV_H_give.1 (54, .ifCond .eq 7) (ip_lk_mem rfl)) (by decide) (fun q => (z_forget (k0 q) trivial)) (fun q => (z_forget (k1 q) trivial))
set_option maxRecDepth 100000 in
theorem b_H_give_62 {l : Launch} {Gr : zG} {n w : Nat} {d : Nat} {S : zS} {Q : Option Value → zS → Prop} {s0 : Int32} (g0 : fits .boolean (.int s0) = true) (k0 : Q (some (.int 1)) (zi S 0 16 s0)) : zW l Gr (zc n w) 168 M_H_give d 62 [none, none, none] [.int s0, .ref 32] S Q := by
  refine z_putI (Gr := Gr) (c := 0) (oV_H_give.1 (62, .putfield 138) (ip_lk_mem rfl)) (oV_H_give.2.1 (138, 11, 16, .boolean, false) (ip_lk_mem rfl)).1 (by decide) (zo_0 _ _ _ _) (zs_0_16 _ _ _ _ _) (zn_0_16 _ _ _ _) g0 ?_
  refine z_go (Gr := Gr) (zc := zc n w) (K := 168) oV_H_give 1 (pc' := 66) (L' := [none, none, none]) (st' := [.int 1]) rfl ?_
  exact z_ret (v := (some (.int 1))) (oV_H_give.1 (66, .ireturn) (ip_lk_mem rfl)) k0
set_option maxRecDepth 100000 in
theorem b_H_give_57 {l : Launch} {Gr : zG} {n w : Nat} {d : Nat} {S : zS} {Q : Option Value → zS → Prop}   (k0 : zW l Gr (zc n w) 168 M_H_give d 62 [none, none, none] [.int 1, .ref 32] S Q) : zW l Gr (zc n w) 168 M_H_give d 57 [none, none, none] [.ref 32] S Q := by
  refine z_go (Gr := Gr) (zc := zc n w) (K := 168) oV_H_give 2 (pc' := 62) (L' := [none, none, none]) (st' := [.int 1, .ref 32]) rfl ?_
  exact k0
theorem e_H_give {l : Launch} {Gr : zG} {n w : Nat} {d : Nat} {S : zS} {R : Int32 → zS → Prop} {x1 : Int32} {x2 : Int32} (k : zW l Gr (zc n w) 168 M_H_give d 0 [some (.ref 32), some (.int x1), some (.int x2)] [] S (fun v S' => ∃ x, v = some (.int x) ∧ (x = 0 ∨ x = 1) ∧ R x S')) : zMi l Gr (zc n w) 168 M_H_give d [.ref 32, .int x1, .int x2] S R := z_mb oM_H_give rfl (Nat.le_of_ble_eq_true rfl) k
set_option maxRecDepth 100000 in
theorem b_H_seed_0 {l : Launch} {Gr : zG} {n w : Nat} {d : Nat} {S : zS} {Q : Option Value → zS → Prop} {x1 : Int32}  (k0 : Q none (zi S 59 4 x1)) : zW l Gr (zc n w) 168 M_H_seed d 0 [some (.ref 32), some (.int x1)] [] S Q := by
  refine z_go (Gr := Gr) (zc := zc n w) (K := 168) oV_H_seed 3 (pc' := 5) (L' := [some (.ref 32), some (.int x1)]) (st' := [.int x1, .ref 91]) rfl ?_
  refine z_putI (Gr := Gr) (c := 59) (oV_H_seed.1 (5, .putfield 185) (ip_lk_mem rfl)) (oV_H_seed.2.1 (185, 3, 4, .int, false) (ip_lk_mem rfl)).1 (by decide) (zo_59 _ _ _ _) (zs_59_4 _ _ _ _ _) (zn_59_4 _ _ _ _) rfl ?_
  exact z_ret (v := none) (oV_H_seed.1 (8, .return_) (ip_lk_mem rfl)) k0
theorem e_H_seed {l : Launch} {Gr : zG} {n w : Nat} {d : Nat} {S : zS} {R : zS → Prop} {x1 : Int32} (k : zW l Gr (zc n w) 168 M_H_seed d 0 [some (.ref 32), some (.int x1)] [] S (fun v S' => v = none ∧ R S')) : zMv l Gr (zc n w) 168 M_H_seed d [.ref 32, .int x1] S R := z_mv oM_H_seed rfl (Nat.le_of_ble_eq_true rfl) k
set_option maxRecDepth 100000 in
theorem b_H_deal_0 {l : Launch} {Gr : zG} {n w : Nat} {d : Nat} {S : zS} {Q : Option Value → zS → Prop}   (k0 : ¬ (S.1 0 14) = 0 → zW l Gr (zc n w) 168 M_H_deal (d + 1) 9 [some (.ref 32)] [] S Q) (k1 : (S.1 0 14) = 0 → zW l Gr (zc n w) 168 M_H_deal (d + 1) 7 [none] [] S Q) : zW l Gr (zc n w) 168 M_H_deal (d + 1) 0 [some (.ref 32)] [] S Q := by
  refine z_go (Gr := Gr) (zc := zc n w) (K := 168) oV_H_deal 2 (pc' := 4) (L' := [some (.ref 32)]) (st' := [.int (S.1 0 14)]) rfl ?_
  exact z_ifne (Gr := Gr) (tgt := 9) (oV_H_deal.1 (4, .ifCond .ne 5) (ip_lk_mem rfl)) (by decide) (fun q => (k0 q)) (fun q => (z_forget (k1 q) trivial))
set_option maxRecDepth 100000 in
theorem b_H_deal_9 {l : Launch} {Gr : zG} {n w : Nat} {d : Nat} {S : zS} {Q : Option Value → zS → Prop} {R : zS → Prop} (hg : ip_gk (lg_tbl, vwCl, Gr))   (k0 : zMv l Gr (zc n w) 168 M_Inputs_fix d [.ref 49] S R) (k1 : ∀ S', R S' → zW l Gr (zc n w) 168 M_H_deal (d + 1) 16 [some (.ref 32)] [] S' Q) : zW l Gr (zc n w) 168 M_H_deal (d + 1) 9 [some (.ref 32)] [] S Q := by
  refine z_go (Gr := Gr) (zc := zc n w) (K := 168) oV_H_deal 2 (pc' := 13) (L' := [some (.ref 32)]) (st' := [.ref 49]) rfl ?_
  exact z_callV (Gr := Gr) hg.2.2.1 fT oM_Inputs_fix (oV_H_deal.1 (13, .invokevirtual 233) (ip_lk_mem rfl)) ⟨tt_6 _ (List.mem_of_getElem? (i := 83) rfl) rfl, tt_6 _ (List.mem_of_getElem? (i := 84) rfl) rfl, tt_6 _ (List.mem_of_getElem? (i := 85) rfl) rfl⟩ (c := 17) (ci := 4) (As := []) rfl rfl rfl (by decide) rfl (Nat.le_of_ble_eq_true rfl) k0 (fun v S' q => by obtain ⟨rfl, q⟩ := q; exact (k1 _ q))
set_option maxRecDepth 100000 in
theorem b_H_deal_7 {l : Launch} {Gr : zG} {n w : Nat} {d : Nat} {S : zS} {Q : Option Value → zS → Prop}   (k0 : Q (some (.int 0)) S) : zW l Gr (zc n w) 168 M_H_deal (d + 1) 7 [none] [] S Q := by
  refine z_go (Gr := Gr) (zc := zc n w) (K := 168) oV_H_deal 1 (pc' := 8) (L' := [none]) (st' := [.int 0]) rfl ?_
  exact z_ret (v := (some (.int 0))) (oV_H_deal.1 (8, .ireturn) (ip_lk_mem rfl)) k0
set_option maxRecDepth 100000 in
theorem b_H_deal_16 {l : Launch} {Gr : zG} {n w : Nat} {d : Nat} {S : zS} {Q : Option Value → zS → Prop} {R : zS → Prop} (hg : ip_gk (lg_tbl, vwCl, Gr))   (k0 : zMv l Gr (zc n w) 168 M_Dealer_cutInputs d [.ref 91, .ref 49] S R) (k1 : ∀ S', R S' → zW l Gr (zc n w) 168 M_H_deal (d + 1) 27 [some (.ref 32)] [] S' Q) : zW l Gr (zc n w) 168 M_H_deal (d + 1) 16 [some (.ref 32)] [] S Q := by
  refine z_go (Gr := Gr) (zc := zc n w) (K := 168) oV_H_deal 4 (pc' := 24) (L' := [some (.ref 32)]) (st' := [.ref 49, .ref 91]) rfl ?_
  exact z_callV (Gr := Gr) hg.2.2.1 fT oM_Dealer_cutInputs (oV_H_deal.1 (24, .invokevirtual 236) (ip_lk_mem rfl)) ⟨tt_6 _ (List.mem_of_getElem? (i := 88) rfl) rfl, tt_6 _ (List.mem_of_getElem? (i := 89) rfl) rfl, tt_6 _ (List.mem_of_getElem? (i := 90) rfl) rfl⟩ (c := 59) (ci := 3) (As := [.ref 49]) rfl rfl rfl (by decide) rfl (Nat.le_of_ble_eq_true rfl) k0 (fun v S' q => by obtain ⟨rfl, q⟩ := q; exact (k1 _ q))
set_option maxRecDepth 100000 in
theorem b_H_deal_27 {l : Launch} {Gr : zG} {n w : Nat} {d : Nat} {S : zS} {Q : Option Value → zS → Prop} {R : zS → Prop} (hg : ip_gk (lg_tbl, vwCl, Gr))   (k0 : zMv l Gr (zc n w) 168 M_Dealer_cutTriples d [.ref 91, .int (S.1 24 5)] S R) (k1 : ∀ S', R S' → zW l Gr (zc n w) 168 M_H_deal (d + 1) 41 [some (.ref 32)] [] S' Q) : zW l Gr (zc n w) 168 M_H_deal (d + 1) 27 [some (.ref 32)] [] S Q := by
  refine z_go (Gr := Gr) (zc := zc n w) (K := 168) oV_H_deal 5 (pc' := 38) (L' := [some (.ref 32)]) (st' := [.int (S.1 24 5), .ref 91]) rfl ?_
  exact z_callV (Gr := Gr) hg.2.2.1 fT oM_Dealer_cutTriples (oV_H_deal.1 (38, .invokevirtual 243) (ip_lk_mem rfl)) ⟨tt_6 _ (List.mem_of_getElem? (i := 110) rfl) rfl, tt_6 _ (List.mem_of_getElem? (i := 111) rfl) rfl, tt_6 _ (List.mem_of_getElem? (i := 112) rfl) rfl⟩ (c := 59) (ci := 3) (As := [.int (S.1 24 5)]) rfl rfl rfl (by decide) rfl (Nat.le_of_ble_eq_true rfl) k0 (fun v S' q => by obtain ⟨rfl, q⟩ := q; exact (k1 _ q))
set_option maxRecDepth 100000 in
theorem b_H_deal_41 {l : Launch} {Gr : zG} {n w : Nat} {d : Nat} {S : zS} {Q : Option Value → zS → Prop} {R : zS → Prop} (hg : ip_gk (lg_tbl, vwCl, Gr))   (k0 : zMv l Gr (zc n w) 168 M_Dealer_forgetUsed d [.ref 91] S R) (k1 : ∀ S', R S' → zW l Gr (zc n w) 168 M_H_deal (d + 1) 48 [some (.ref 32)] [] S' Q) : zW l Gr (zc n w) 168 M_H_deal (d + 1) 41 [some (.ref 32)] [] S Q := by
  refine z_go (Gr := Gr) (zc := zc n w) (K := 168) oV_H_deal 2 (pc' := 45) (L' := [some (.ref 32)]) (st' := [.ref 91]) rfl ?_
  exact z_callV (Gr := Gr) hg.2.2.1 fT oM_Dealer_forgetUsed (oV_H_deal.1 (45, .invokevirtual 246) (ip_lk_mem rfl)) ⟨tt_6 _ (List.mem_of_getElem? (i := 114) rfl) rfl, tt_6 _ (List.mem_of_getElem? (i := 115) rfl) rfl, tt_6 _ (List.mem_of_getElem? (i := 116) rfl) rfl⟩ (c := 59) (ci := 3) (As := []) rfl rfl rfl (by decide) rfl (Nat.le_of_ble_eq_true rfl) k0 (fun v S' q => by obtain ⟨rfl, q⟩ := q; exact (k1 _ q))
set_option maxRecDepth 100000 in
theorem b_H_deal_48 {l : Launch} {Gr : zG} {n w : Nat} {d : Nat} {S : zS} {Q : Option Value → zS → Prop} {R : zS → Prop} (hg : ip_gk (lg_tbl, vwCl, Gr))   (k0 : zMv l Gr (zc n w) 168 M_Dealer_workShares d [.ref 91, .ref 56] S R) (k1 : ∀ S', R S' → zW l Gr (zc n w) 168 M_H_deal (d + 1) 59 [some (.ref 32)] [] S' Q) : zW l Gr (zc n w) 168 M_H_deal (d + 1) 48 [some (.ref 32)] [] S Q := by
  refine z_go (Gr := Gr) (zc := zc n w) (K := 168) oV_H_deal 4 (pc' := 56) (L' := [some (.ref 32)]) (st' := [.ref 56, .ref 91]) rfl ?_
  exact z_callV (Gr := Gr) hg.2.2.1 fT oM_Dealer_workShares (oV_H_deal.1 (56, .invokevirtual 249) (ip_lk_mem rfl)) ⟨tt_6 _ (List.mem_of_getElem? (i := 119) rfl) rfl, tt_6 _ (List.mem_of_getElem? (i := 120) rfl) rfl, tt_6 _ (List.mem_of_getElem? (i := 121) rfl) rfl⟩ (c := 59) (ci := 3) (As := [.ref 56]) rfl rfl rfl (by decide) rfl (Nat.le_of_ble_eq_true rfl) k0 (fun v S' q => by obtain ⟨rfl, q⟩ := q; exact (k1 _ q))
set_option maxRecDepth 100000 in
theorem b_H_deal_59 {l : Launch} {Gr : zG} {n w : Nat} {d : Nat} {S : zS} {Q : Option Value → zS → Prop} {R : zS → Prop} (hg : ip_gk (lg_tbl, vwCl, Gr))   (k0 : zMv l Gr (zc n w) 168 M_Post_begin d [.ref 97] S R) (k1 : ∀ S', R S' → zW l Gr (zc n w) 168 M_H_deal (d + 1) 66 [some (.ref 32)] [] S' Q) : zW l Gr (zc n w) 168 M_H_deal (d + 1) 59 [some (.ref 32)] [] S Q := by
  refine z_go (Gr := Gr) (zc := zc n w) (K := 168) oV_H_deal 2 (pc' := 63) (L' := [some (.ref 32)]) (st' := [.ref 97]) rfl ?_
  exact z_callV (Gr := Gr) hg.2.2.1 fT oM_Post_begin (oV_H_deal.1 (63, .invokevirtual 253) (ip_lk_mem rfl)) ⟨tt_6 _ (List.mem_of_getElem? (i := 135) rfl) rfl, tt_6 _ (List.mem_of_getElem? (i := 136) rfl) rfl, tt_6 _ (List.mem_of_getElem? (i := 137) rfl) rfl⟩ (c := 65) (ci := 7) (As := []) rfl rfl rfl (by decide) rfl (Nat.le_of_ble_eq_true rfl) k0 (fun v S' q => by obtain ⟨rfl, q⟩ := q; exact (k1 _ q))
set_option maxRecDepth 100000 in
theorem b_H_deal_66 {l : Launch} {Gr : zG} {n w : Nat} {d : Nat} {S : zS} {Q : Option Value → zS → Prop}   (k0 : Q (some (.int 1)) (zi (zi S 0 15 1) 0 16 0)) : zW l Gr (zc n w) 168 M_H_deal (d + 1) 66 [some (.ref 32)] [] S Q := by
  refine z_go (Gr := Gr) (zc := zc n w) (K := 168) oV_H_deal 2 (pc' := 68) (L' := [some (.ref 32)]) (st' := [.int 1, .ref 32]) rfl ?_
  refine z_putI (Gr := Gr) (c := 0) (oV_H_deal.1 (68, .putfield 135) (ip_lk_mem rfl)) (oV_H_deal.2.1 (135, 11, 15, .boolean, false) (ip_lk_mem rfl)).1 (by decide) (zo_0 _ _ _ _) (zs_0_15 _ _ _ _ _) (zn_0_15 _ _ _ _) (by decide) ?_
  refine z_go (Gr := Gr) (zc := zc n w) (K := 168) oV_H_deal 2 (pc' := 73) (L' := [some (.ref 32)]) (st' := [.int 0, .ref 32]) rfl ?_
  refine z_putI (Gr := Gr) (c := 0) (oV_H_deal.1 (73, .putfield 138) (ip_lk_mem rfl)) (oV_H_deal.2.1 (138, 11, 16, .boolean, false) (ip_lk_mem rfl)).1 (by decide) (zo_0 _ _ _ _) (zs_0_16 _ _ _ _ _) (zn_0_16 _ _ _ _) (by decide) ?_
  refine z_go (Gr := Gr) (zc := zc n w) (K := 168) oV_H_deal 1 (pc' := 77) (L' := [some (.ref 32)]) (st' := [.int 1]) rfl ?_
  exact z_ret (v := (some (.int 1))) (oV_H_deal.1 (77, .ireturn) (ip_lk_mem rfl)) k0
theorem e_H_deal {l : Launch} {Gr : zG} {n w : Nat} {d : Nat} {S : zS} {R : Int32 → zS → Prop}  (k : zW l Gr (zc n w) 168 M_H_deal (d + 1) 0 [some (.ref 32)] [] S (fun v S' => ∃ x, v = some (.int x) ∧ (x = 0 ∨ x = 1) ∧ R x S')) : zMi l Gr (zc n w) 168 M_H_deal (d + 1) [.ref 32] S R := z_mb oM_H_deal rfl (Nat.le_of_ble_eq_true rfl) k
set_option maxRecDepth 100000 in
theorem b_H_message_0 {l : Launch} {Gr : zG} {n w : Nat} {d : Nat} {S : zS} {Q : Option Value → zS → Prop} {R : Int32 → zS → Prop} (hg : ip_gk (lg_tbl, vwCl, Gr)) {x1 : Int32} {x2 : Int32}  (k0 : zMi l Gr (zc n w) 168 M_H_isFlying d [.ref 32, .int x1] S R) (k1 : ∀ v S', R v S' → zW l Gr (zc n w) 168 M_H_message (d + 1) 5 [some (.ref 32), some (.int x1), some (.int x2), none] [.int v] S' Q) : zW l Gr (zc n w) 168 M_H_message (d + 1) 0 [some (.ref 32), some (.int x1), some (.int x2), none] [] S Q := by
  refine z_go (Gr := Gr) (zc := zc n w) (K := 168) oV_H_message 2 (pc' := 2) (L' := [some (.ref 32), some (.int x1), some (.int x2), none]) (st' := [.int x1, .ref 32]) rfl ?_
  exact z_callV (Gr := Gr) hg.2.2.1 fT oM_H_isFlying (oV_H_message.1 (2, .invokevirtual 256) (ip_lk_mem rfl)) ⟨tt_6 _ (List.mem_of_getElem? (i := 148) rfl) rfl, tt_6 _ (List.mem_of_getElem? (i := 150) rfl) rfl, fS_H_isFlying⟩ (c := 0) (ci := 11) (As := [.int x1]) rfl rfl rfl (by decide) rfl (Nat.le_of_ble_eq_true rfl) k0 (fun v S' q => by obtain ⟨x, rfl, q⟩ := q; exact (k1 _ _ q))
set_option maxRecDepth 100000 in
theorem b_H_message_5 {l : Launch} {Gr : zG} {n w : Nat} {d : Nat} {S : zS} {Q : Option Value → zS → Prop} {x1 : Int32} {x2 : Int32} {s0 : Int32}  (k0 : ¬ s0 = 0 → zW l Gr (zc n w) 168 M_H_message (d + 1) 10 [some (.ref 32), some (.int x1), some (.int x2), none] [] S Q) (k1 : s0 = 0 → zW l Gr (zc n w) 168 M_H_message (d + 1) 8 [none, none, none, none] [] S Q) : zW l Gr (zc n w) 168 M_H_message (d + 1) 5 [some (.ref 32), some (.int x1), some (.int x2), none] [.int s0] S Q := by
  exact z_ifne (Gr := Gr) (tgt := 10) (oV_H_message.1 (5, .ifCond .ne 5) (ip_lk_mem rfl)) (by decide) (fun q => (k0 q)) (fun q => (z_forget (k1 q) trivial))
set_option maxRecDepth 100000 in
theorem b_H_message_10 {l : Launch} {Gr : zG} {n w : Nat} {d : Nat} {S : zS} {Q : Option Value → zS → Prop} {x1 : Int32} {x2 : Int32} (g0 : vp_in x1 (2 * n * (n - 1))) (k0 : x2 = 0 → zW l Gr (zc n w) 168 M_H_message (d + 1) 52 [none, none, none, some (.int (S.1 71 ((x1 : Int32).toNatClampNeg)))] [] S Q) (k1 : x2 = 1 → zW l Gr (zc n w) 168 M_H_message (d + 1) 57 [none, none, none, some (.int (S.1 71 ((x1 : Int32).toNatClampNeg)))] [] S Q) (k2 : x2 = 2 → zW l Gr (zc n w) 168 M_H_message (d + 1) 62 [none, none, none, some (.int (S.1 71 ((x1 : Int32).toNatClampNeg)))] [] S Q) (k3 : x2 = 3 → zW l Gr (zc n w) 168 M_H_message (d + 1) 67 [some (.ref 32), none, none, some (.int (S.1 71 ((x1 : Int32).toNatClampNeg)))] [] S Q) (k4 : ¬ x2 = 0 → ¬ x2 = 1 → ¬ x2 = 2 → ¬ x2 = 3 → zW l Gr (zc n w) 168 M_H_message (d + 1) 76 [some (.ref 32), none, some (.int x2), some (.int (S.1 71 ((x1 : Int32).toNatClampNeg)))] [] S Q) : zW l Gr (zc n w) 168 M_H_message (d + 1) 10 [some (.ref 32), some (.int x1), some (.int x2), none] [] S Q := by
  refine z_go (Gr := Gr) (zc := zc n w) (K := 168) oV_H_message 4 (pc' := 18) (L' := [some (.ref 32), some (.int x1), some (.int x2), none]) (st' := [.int x1, .ref 103]) rfl ?_
  refine z_iald (Gr := Gr) (c := 71) (oV_H_message.1 (18, .iaload) (ip_lk_mem rfl)) (by decide) rfl g0 ?_
  refine z_go (Gr := Gr) (zc := zc n w) (K := 168) oV_H_message 2 (pc' := 21) (L' := [some (.ref 32), some (.int x1), some (.int x2), some (.int (S.1 71 ((x1 : Int32).toNatClampNeg)))]) (st' := [.int x2]) rfl ?_
  by_cases q0 : x2 = 0
  · exact z_tabI (Gr := Gr) (tgt := 52) (oV_H_message.1 (21, .tableswitch 55 0 3 #[31, 36, 41, 46]) (ip_lk_mem rfl)) (by rw [q0]; decide) (by rw [q0]; decide) (off := 31) (by rw [q0]; rfl) (by decide) (z_forget (k0 q0) (And.intro rfl trivial))
  by_cases q1 : x2 = 1
  · exact z_tabI (Gr := Gr) (tgt := 57) (oV_H_message.1 (21, .tableswitch 55 0 3 #[31, 36, 41, 46]) (ip_lk_mem rfl)) (by rw [q1]; decide) (by rw [q1]; decide) (off := 36) (by rw [q1]; rfl) (by decide) (z_forget (k1 q1) (And.intro rfl trivial))
  by_cases q2 : x2 = 2
  · exact z_tabI (Gr := Gr) (tgt := 62) (oV_H_message.1 (21, .tableswitch 55 0 3 #[31, 36, 41, 46]) (ip_lk_mem rfl)) (by rw [q2]; decide) (by rw [q2]; decide) (off := 41) (by rw [q2]; rfl) (by decide) (z_forget (k2 q2) (And.intro rfl trivial))
  by_cases q3 : x2 = 3
  · exact z_tabI (Gr := Gr) (tgt := 67) (oV_H_message.1 (21, .tableswitch 55 0 3 #[31, 36, 41, 46]) (ip_lk_mem rfl)) (by rw [q3]; decide) (by rw [q3]; decide) (off := 46) (by rw [q3]; rfl) (by decide) (z_forget (k3 q3) (And.intro rfl (And.intro rfl trivial)))
  have hO : (x2).toInt < 0 ∨ 3 < (x2).toInt := by
    have r0 : ¬ (x2).toInt = 0 := fun h => q0 (Int32.toInt_inj.mp h)
    have r1 : ¬ (x2).toInt = 1 := fun h => q1 (Int32.toInt_inj.mp h)
    have r2 : ¬ (x2).toInt = 2 := fun h => q2 (Int32.toInt_inj.mp h)
    have r3 : ¬ (x2).toInt = 3 := fun h => q3 (Int32.toInt_inj.mp h)
    omega
  exact z_tabO (Gr := Gr) (tgt := 76) (oV_H_message.1 (21, .tableswitch 55 0 3 #[31, 36, 41, 46]) (ip_lk_mem rfl)) hO (by decide) (z_forget (k4 q0 q1 q2 q3) (And.intro rfl (And.intro rfl (And.intro rfl trivial))))
set_option maxRecDepth 100000 in
theorem b_H_message_8 {l : Launch} {Gr : zG} {n w : Nat} {d : Nat} {S : zS} {Q : Option Value → zS → Prop}   (k0 : Q (some (.int (-1))) S) : zW l Gr (zc n w) 168 M_H_message (d + 1) 8 [none, none, none, none] [] S Q := by
  refine z_go (Gr := Gr) (zc := zc n w) (K := 168) oV_H_message 1 (pc' := 9) (L' := [none, none, none, none]) (st' := [.int (-1)]) rfl ?_
  exact z_ret (v := (some (.int (-1)))) (oV_H_message.1 (9, .ireturn) (ip_lk_mem rfl)) k0
set_option maxRecDepth 100000 in
theorem b_H_message_76 {l : Launch} {Gr : zG} {n w : Nat} {d : Nat} {S : zS} {Q : Option Value → zS → Prop} {x2 : Int32} {x3 : Int32}  (k0 : x2 < 4 → zW l Gr (zc n w) 168 M_H_message (d + 1) 95 [none, none, none, none] [] S Q) (k1 : ¬ x2 < 4 → zW l Gr (zc n w) 168 M_H_message (d + 1) 81 [some (.ref 32), none, some (.int x2), some (.int x3)] [] S Q) : zW l Gr (zc n w) 168 M_H_message (d + 1) 76 [some (.ref 32), none, some (.int x2), some (.int x3)] [] S Q := by
  refine z_go (Gr := Gr) (zc := zc n w) (K := 168) oV_H_message 2 (pc' := 78) (L' := [some (.ref 32), none, some (.int x2), some (.int x3)]) (st' := [.int 4, .int x2]) rfl ?_
  exact z_iclt (Gr := Gr) (tgt := 95) (oV_H_message.1 (78, .if_icmp .lt 17) (ip_lk_mem rfl)) (by decide) (fun q => (z_forget (k0 q) trivial)) (fun q => (k1 q))
set_option maxRecDepth 100000 in
theorem b_H_message_52 {l : Launch} {Gr : zG} {n w : Nat} {d : Nat} {S : zS} {Q : Option Value → zS → Prop} {R : Int32 → zS → Prop} (hg : ip_gk (lg_tbl, vwCl, Gr)) {x3 : Int32}  (k0 : zMi l Gr (zc n w) 168 M_Post_from d [.int x3] S R) (k1 : ∀ v S', R v S' → zW l Gr (zc n w) 168 M_H_message (d + 1) 56 [none, none, none, none] [.int v] S' Q) : zW l Gr (zc n w) 168 M_H_message (d + 1) 52 [none, none, none, some (.int x3)] [] S Q := by
  refine z_go (Gr := Gr) (zc := zc n w) (K := 168) oV_H_message 1 (pc' := 53) (L' := [none, none, none, some (.int x3)]) (st' := [.int x3]) rfl ?_
  exact z_callS (Gr := Gr) hg.2.2.1 fT oM_Post_from (oV_H_message.1 (53, .invokestatic 262) (ip_lk_mem rfl)) ⟨tt_6 _ (List.mem_of_getElem? (i := 152) rfl) rfl, tt_6 _ (List.mem_of_getElem? (i := 153) rfl) rfl⟩ (As := [.int x3]) rfl (Nat.le_of_ble_eq_true rfl) k0 (fun v S' q => by obtain ⟨x, rfl, q⟩ := q; exact (z_forget (k1 _ _ q) trivial))
set_option maxRecDepth 100000 in
theorem b_H_message_57 {l : Launch} {Gr : zG} {n w : Nat} {d : Nat} {S : zS} {Q : Option Value → zS → Prop} {R : Int32 → zS → Prop} (hg : ip_gk (lg_tbl, vwCl, Gr)) {x3 : Int32}  (k0 : zMi l Gr (zc n w) 168 M_Post_to d [.int x3] S R) (k1 : ∀ v S', R v S' → zW l Gr (zc n w) 168 M_H_message (d + 1) 61 [none, none, none, none] [.int v] S' Q) : zW l Gr (zc n w) 168 M_H_message (d + 1) 57 [none, none, none, some (.int x3)] [] S Q := by
  refine z_go (Gr := Gr) (zc := zc n w) (K := 168) oV_H_message 1 (pc' := 58) (L' := [none, none, none, some (.int x3)]) (st' := [.int x3]) rfl ?_
  exact z_callS (Gr := Gr) hg.2.2.1 fT oM_Post_to (oV_H_message.1 (58, .invokestatic 265) (ip_lk_mem rfl)) ⟨tt_6 _ (List.mem_of_getElem? (i := 155) rfl) rfl, tt_6 _ (List.mem_of_getElem? (i := 156) rfl) rfl⟩ (As := [.int x3]) rfl (Nat.le_of_ble_eq_true rfl) k0 (fun v S' q => by obtain ⟨x, rfl, q⟩ := q; exact (z_forget (k1 _ _ q) trivial))
set_option maxRecDepth 100000 in
theorem b_H_message_62 {l : Launch} {Gr : zG} {n w : Nat} {d : Nat} {S : zS} {Q : Option Value → zS → Prop} {R : Int32 → zS → Prop} (hg : ip_gk (lg_tbl, vwCl, Gr)) {x3 : Int32}  (k0 : zMi l Gr (zc n w) 168 M_Post_round d [.int x3] S R) (k1 : ∀ v S', R v S' → zW l Gr (zc n w) 168 M_H_message (d + 1) 66 [none, none, none, none] [.int v] S' Q) : zW l Gr (zc n w) 168 M_H_message (d + 1) 62 [none, none, none, some (.int x3)] [] S Q := by
  refine z_go (Gr := Gr) (zc := zc n w) (K := 168) oV_H_message 1 (pc' := 63) (L' := [none, none, none, some (.int x3)]) (st' := [.int x3]) rfl ?_
  exact z_callS (Gr := Gr) hg.2.2.1 fT oM_Post_round (oV_H_message.1 (63, .invokestatic 268) (ip_lk_mem rfl)) ⟨tt_6 _ (List.mem_of_getElem? (i := 158) rfl) rfl, tt_6 _ (List.mem_of_getElem? (i := 159) rfl) rfl⟩ (As := [.int x3]) rfl (Nat.le_of_ble_eq_true rfl) k0 (fun v S' q => by obtain ⟨x, rfl, q⟩ := q; exact (z_forget (k1 _ _ q) trivial))
set_option maxRecDepth 100000 in
theorem b_H_message_67 {l : Launch} {Gr : zG} {n w : Nat} {d : Nat} {S : zS} {Q : Option Value → zS → Prop} {R : Int32 → zS → Prop} (hg : ip_gk (lg_tbl, vwCl, Gr)) {x3 : Int32}  (k0 : zMi l Gr (zc n w) 168 M_Post_bitsOf d [.ref 97, .int x3] S R) (k1 : ∀ v S', R v S' → zW l Gr (zc n w) 168 M_H_message (d + 1) 75 [none, none, none, none] [.int v] S' Q) : zW l Gr (zc n w) 168 M_H_message (d + 1) 67 [some (.ref 32), none, none, some (.int x3)] [] S Q := by
  refine z_go (Gr := Gr) (zc := zc n w) (K := 168) oV_H_message 3 (pc' := 72) (L' := [some (.ref 32), none, none, some (.int x3)]) (st' := [.int x3, .ref 97]) rfl ?_
  exact z_callV (Gr := Gr) hg.2.2.1 fT oM_Post_bitsOf (oV_H_message.1 (72, .invokevirtual 271) (ip_lk_mem rfl)) ⟨tt_6 _ (List.mem_of_getElem? (i := 161) rfl) rfl, tt_6 _ (List.mem_of_getElem? (i := 162) rfl) rfl, tt_6 _ (List.mem_of_getElem? (i := 163) rfl) rfl⟩ (c := 65) (ci := 7) (As := [.int x3]) rfl rfl rfl (by decide) rfl (Nat.le_of_ble_eq_true rfl) k0 (fun v S' q => by obtain ⟨x, rfl, q⟩ := q; exact (z_forget (k1 _ _ q) trivial))
set_option maxRecDepth 100000 in
theorem b_H_message_95 {l : Launch} {Gr : zG} {n w : Nat} {d : Nat} {S : zS} {Q : Option Value → zS → Prop}   (k0 : zW l Gr (zc n w) 168 M_H_message (d + 1) 110 [none, none, none, none] [.int (-1)] S Q) : zW l Gr (zc n w) 168 M_H_message (d + 1) 95 [none, none, none, none] [] S Q := by
  refine z_go (Gr := Gr) (zc := zc n w) (K := 168) oV_H_message 2 (pc' := 110) (L' := [none, none, none, none]) (st' := [.int (-1)]) rfl ?_
  exact k0
set_option maxRecDepth 100000 in
theorem b_H_message_81 {l : Launch} {Gr : zG} {n w : Nat} {d : Nat} {S : zS} {Q : Option Value → zS → Prop} {R : Int32 → zS → Prop} (hg : ip_gk (lg_tbl, vwCl, Gr)) {x2 : Int32} {x3 : Int32}  (k0 : zMi l Gr (zc n w) 168 M_Post_bitsOf d [.ref 97, .int x3] S R) (k1 : ∀ v S', R v S' → zW l Gr (zc n w) 168 M_H_message (d + 1) 92 [some (.ref 32), none, some (.int x2), some (.int x3)] [.int v, .int (x2 - 4)] S' Q) : zW l Gr (zc n w) 168 M_H_message (d + 1) 81 [some (.ref 32), none, some (.int x2), some (.int x3)] [] S Q := by
  refine z_go (Gr := Gr) (zc := zc n w) (K := 168) oV_H_message 6 (pc' := 89) (L' := [some (.ref 32), none, some (.int x2), some (.int x3)]) (st' := [.int x3, .ref 97, .int (x2 - 4)]) rfl ?_
  exact z_callV (Gr := Gr) hg.2.2.1 fT oM_Post_bitsOf (oV_H_message.1 (89, .invokevirtual 271) (ip_lk_mem rfl)) ⟨tt_6 _ (List.mem_of_getElem? (i := 161) rfl) rfl, tt_6 _ (List.mem_of_getElem? (i := 162) rfl) rfl, tt_6 _ (List.mem_of_getElem? (i := 163) rfl) rfl⟩ (c := 65) (ci := 7) (As := [.int x3]) rfl rfl rfl (by decide) rfl (Nat.le_of_ble_eq_true rfl) k0 (fun v S' q => by obtain ⟨x, rfl, q⟩ := q; exact (k1 _ _ q))
set_option maxRecDepth 100000 in
theorem b_H_message_56 {l : Launch} {Gr : zG} {n w : Nat} {d : Nat} {S : zS} {Q : Option Value → zS → Prop} {s0 : Int32}  (k0 : Q (some (.int s0)) S) : zW l Gr (zc n w) 168 M_H_message (d + 1) 56 [none, none, none, none] [.int s0] S Q := by
  exact z_ret (v := (some (.int s0))) (oV_H_message.1 (56, .ireturn) (ip_lk_mem rfl)) k0
set_option maxRecDepth 100000 in
theorem b_H_message_61 {l : Launch} {Gr : zG} {n w : Nat} {d : Nat} {S : zS} {Q : Option Value → zS → Prop} {s0 : Int32}  (k0 : Q (some (.int s0)) S) : zW l Gr (zc n w) 168 M_H_message (d + 1) 61 [none, none, none, none] [.int s0] S Q := by
  exact z_ret (v := (some (.int s0))) (oV_H_message.1 (61, .ireturn) (ip_lk_mem rfl)) k0
set_option maxRecDepth 100000 in
theorem b_H_message_66 {l : Launch} {Gr : zG} {n w : Nat} {d : Nat} {S : zS} {Q : Option Value → zS → Prop} {s0 : Int32}  (k0 : Q (some (.int s0)) S) : zW l Gr (zc n w) 168 M_H_message (d + 1) 66 [none, none, none, none] [.int s0] S Q := by
  exact z_ret (v := (some (.int s0))) (oV_H_message.1 (66, .ireturn) (ip_lk_mem rfl)) k0
set_option maxRecDepth 100000 in
theorem b_H_message_75 {l : Launch} {Gr : zG} {n w : Nat} {d : Nat} {S : zS} {Q : Option Value → zS → Prop} {s0 : Int32}  (k0 : Q (some (.int s0)) S) : zW l Gr (zc n w) 168 M_H_message (d + 1) 75 [none, none, none, none] [.int s0] S Q := by
  exact z_ret (v := (some (.int s0))) (oV_H_message.1 (75, .ireturn) (ip_lk_mem rfl)) k0
set_option maxRecDepth 100000 in
theorem b_H_message_110 {l : Launch} {Gr : zG} {n w : Nat} {d : Nat} {S : zS} {Q : Option Value → zS → Prop} {s0 : Int32}  (k0 : Q (some (.int s0)) S) : zW l Gr (zc n w) 168 M_H_message (d + 1) 110 [none, none, none, none] [.int s0] S Q := by
  exact z_ret (v := (some (.int s0))) (oV_H_message.1 (110, .ireturn) (ip_lk_mem rfl)) k0
set_option maxRecDepth 100000 in
theorem b_H_message_92 {l : Launch} {Gr : zG} {n w : Nat} {d : Nat} {S : zS} {Q : Option Value → zS → Prop} {x2 : Int32} {x3 : Int32} {s0 : Int32} {s1 : Int32}  (k0 : s1 < s0 → zW l Gr (zc n w) 168 M_H_message (d + 1) 99 [some (.ref 32), none, some (.int x2), some (.int x3)] [] S Q) (k1 : ¬ s1 < s0 → zW l Gr (zc n w) 168 M_H_message (d + 1) 95 [none, none, none, none] [] S Q) : zW l Gr (zc n w) 168 M_H_message (d + 1) 92 [some (.ref 32), none, some (.int x2), some (.int x3)] [.int s0, .int s1] S Q := by
  exact z_iclt (Gr := Gr) (tgt := 99) (oV_H_message.1 (92, .if_icmp .lt 7) (ip_lk_mem rfl)) (by decide) (fun q => (k0 q)) (fun q => (z_forget (k1 q) trivial))
set_option maxRecDepth 100000 in
theorem b_H_message_99 {l : Launch} {Gr : zG} {n w : Nat} {d : Nat} {S : zS} {Q : Option Value → zS → Prop} {R : Int32 → zS → Prop} (hg : ip_gk (lg_tbl, vwCl, Gr)) {x2 : Int32} {x3 : Int32}  (k0 : zMi l Gr (zc n w) 168 M_Post_bitOf d [.ref 97, .int x3, .int (x2 - 4)] S R) (k1 : ∀ v S', R v S' → zW l Gr (zc n w) 168 M_H_message (d + 1) 110 [none, none, none, none] [.int v] S' Q) : zW l Gr (zc n w) 168 M_H_message (d + 1) 99 [some (.ref 32), none, some (.int x2), some (.int x3)] [] S Q := by
  refine z_go (Gr := Gr) (zc := zc n w) (K := 168) oV_H_message 6 (pc' := 107) (L' := [some (.ref 32), none, some (.int x2), some (.int x3)]) (st' := [.int (x2 - 4), .int x3, .ref 97]) rfl ?_
  exact z_callV (Gr := Gr) hg.2.2.1 fT oM_Post_bitOf (oV_H_message.1 (107, .invokevirtual 274) (ip_lk_mem rfl)) ⟨tt_6 _ (List.mem_of_getElem? (i := 175) rfl) rfl, tt_6 _ (List.mem_of_getElem? (i := 176) rfl) rfl, tt_6 _ (List.mem_of_getElem? (i := 177) rfl) rfl⟩ (c := 65) (ci := 7) (As := [.int x3, .int (x2 - 4)]) rfl rfl rfl (by decide) rfl (Nat.le_of_ble_eq_true rfl) k0 (fun v S' q => by obtain ⟨x, rfl, q⟩ := q; exact (z_forget (k1 _ _ q) trivial))
theorem e_H_message {l : Launch} {Gr : zG} {n w : Nat} {d : Nat} {S : zS} {R : Int32 → zS → Prop} {x1 : Int32} {x2 : Int32} (k : zW l Gr (zc n w) 168 M_H_message (d + 1) 0 [some (.ref 32), some (.int x1), some (.int x2), none] [] S (fun v S' => ∃ x, v = some (.int x) ∧ R x S')) : zMi l Gr (zc n w) 168 M_H_message (d + 1) [.ref 32, .int x1, .int x2] S R := z_mi oM_H_message rfl (Nat.le_of_ble_eq_true rfl) k
set_option maxRecDepth 100000 in
theorem b_H_deliver_0 {l : Launch} {Gr : zG} {n w : Nat} {d : Nat} {S : zS} {Q : Option Value → zS → Prop} {R : Int32 → zS → Prop} (hg : ip_gk (lg_tbl, vwCl, Gr)) {x1 : Int32}  (k0 : zMi l Gr (zc n w) 168 M_H_isFlying d [.ref 32, .int x1] S R) (k1 : ∀ v S', R v S' → zW l Gr (zc n w) 168 M_H_deliver (d + 1) 5 [some (.ref 32), some (.int x1)] [.int v] S' Q) : zW l Gr (zc n w) 168 M_H_deliver (d + 1) 0 [some (.ref 32), some (.int x1)] [] S Q := by
  refine z_go (Gr := Gr) (zc := zc n w) (K := 168) oV_H_deliver 2 (pc' := 2) (L' := [some (.ref 32), some (.int x1)]) (st' := [.int x1, .ref 32]) rfl ?_
  exact z_callV (Gr := Gr) hg.2.2.1 fT oM_H_isFlying (oV_H_deliver.1 (2, .invokevirtual 256) (ip_lk_mem rfl)) ⟨tt_6 _ (List.mem_of_getElem? (i := 148) rfl) rfl, tt_6 _ (List.mem_of_getElem? (i := 150) rfl) rfl, fS_H_isFlying⟩ (c := 0) (ci := 11) (As := [.int x1]) rfl rfl rfl (by decide) rfl (Nat.le_of_ble_eq_true rfl) k0 (fun v S' q => by obtain ⟨x, rfl, q⟩ := q; exact (k1 _ _ q))
set_option maxRecDepth 100000 in
theorem b_H_deliver_5 {l : Launch} {Gr : zG} {n w : Nat} {d : Nat} {S : zS} {Q : Option Value → zS → Prop} {x1 : Int32} {s0 : Int32}  (k0 : s0 = 0 → zW l Gr (zc n w) 168 M_H_deliver (d + 1) 19 [none, none] [] S Q) (k1 : ¬ s0 = 0 → zW l Gr (zc n w) 168 M_H_deliver (d + 1) 8 [some (.ref 32), some (.int x1)] [] S Q) : zW l Gr (zc n w) 168 M_H_deliver (d + 1) 5 [some (.ref 32), some (.int x1)] [.int s0] S Q := by
  exact z_ifeq (Gr := Gr) (tgt := 19) (oV_H_deliver.1 (5, .ifCond .eq 14) (ip_lk_mem rfl)) (by decide) (fun q => (z_forget (k0 q) trivial)) (fun q => (k1 q))
set_option maxRecDepth 100000 in
theorem b_H_deliver_19 {l : Launch} {Gr : zG} {n w : Nat} {d : Nat} {S : zS} {Q : Option Value → zS → Prop}   (k0 : zW l Gr (zc n w) 168 M_H_deliver (d + 1) 20 [none, none] [.int (-1)] S Q) : zW l Gr (zc n w) 168 M_H_deliver (d + 1) 19 [none, none] [] S Q := by
  refine z_go (Gr := Gr) (zc := zc n w) (K := 168) oV_H_deliver 1 (pc' := 20) (L' := [none, none]) (st' := [.int (-1)]) rfl ?_
  exact k0
set_option maxRecDepth 100000 in
theorem b_H_deliver_8 {l : Launch} {Gr : zG} {n w : Nat} {d : Nat} {S : zS} {Q : Option Value → zS → Prop} {R : Int32 → zS → Prop} (hg : ip_gk (lg_tbl, vwCl, Gr)) {x1 : Int32}  (k0 : zMi l Gr (zc n w) 168 M_Post_bring d [.ref 97, .int x1] S R) (k1 : ∀ v S', R v S' → zW l Gr (zc n w) 168 M_H_deliver (d + 1) 16 [none, none] [.int v] S' Q) : zW l Gr (zc n w) 168 M_H_deliver (d + 1) 8 [some (.ref 32), some (.int x1)] [] S Q := by
  refine z_go (Gr := Gr) (zc := zc n w) (K := 168) oV_H_deliver 3 (pc' := 13) (L' := [some (.ref 32), some (.int x1)]) (st' := [.int x1, .ref 97]) rfl ?_
  exact z_callV (Gr := Gr) hg.2.2.1 fT oM_Post_bring (oV_H_deliver.1 (13, .invokevirtual 277) (ip_lk_mem rfl)) ⟨tt_6 _ (List.mem_of_getElem? (i := 203) rfl) rfl, tt_6 _ (List.mem_of_getElem? (i := 204) rfl) rfl, tt_6 _ (List.mem_of_getElem? (i := 205) rfl) rfl⟩ (c := 65) (ci := 7) (As := [.int x1]) rfl rfl rfl (by decide) rfl (Nat.le_of_ble_eq_true rfl) k0 (fun v S' q => by obtain ⟨x, rfl, q⟩ := q; exact (z_forget (k1 _ _ q) trivial))
set_option maxRecDepth 100000 in
theorem b_H_deliver_20 {l : Launch} {Gr : zG} {n w : Nat} {d : Nat} {S : zS} {Q : Option Value → zS → Prop} {s0 : Int32}  (k0 : Q (some (.int s0)) S) : zW l Gr (zc n w) 168 M_H_deliver (d + 1) 20 [none, none] [.int s0] S Q := by
  exact z_ret (v := (some (.int s0))) (oV_H_deliver.1 (20, .ireturn) (ip_lk_mem rfl)) k0
set_option maxRecDepth 100000 in
theorem b_H_deliver_16 {l : Launch} {Gr : zG} {n w : Nat} {d : Nat} {S : zS} {Q : Option Value → zS → Prop} {s0 : Int32}  (k0 : zW l Gr (zc n w) 168 M_H_deliver (d + 1) 20 [none, none] [.int s0] S Q) : zW l Gr (zc n w) 168 M_H_deliver (d + 1) 16 [none, none] [.int s0] S Q := by
  refine z_go (Gr := Gr) (zc := zc n w) (K := 168) oV_H_deliver 1 (pc' := 20) (L' := [none, none]) (st' := [.int s0]) rfl ?_
  exact k0
theorem e_H_deliver {l : Launch} {Gr : zG} {n w : Nat} {d : Nat} {S : zS} {R : Int32 → zS → Prop} {x1 : Int32} (k : zW l Gr (zc n w) 168 M_H_deliver (d + 1) 0 [some (.ref 32), some (.int x1)] [] S (fun v S' => ∃ x, v = some (.int x) ∧ R x S')) : zMi l Gr (zc n w) 168 M_H_deliver (d + 1) [.ref 32, .int x1] S R := z_mi oM_H_deliver rfl (Nat.le_of_ble_eq_true rfl) k
set_option maxRecDepth 100000 in
theorem b_H_rush_0 {l : Launch} {Gr : zG} {n w : Nat} {d : Nat} {S : zS} {Q : Option Value → zS → Prop} {x1 : Int32} {x2 : Int32}  (k0 : x1 < 0 → zW l Gr (zc n w) 168 M_H_rush (d + 1) 15 [none, none, none, none] [] S Q) (k1 : ¬ x1 < 0 → zW l Gr (zc n w) 168 M_H_rush (d + 1) 4 [some (.ref 32), some (.int x1), some (.int x2), none] [] S Q) : zW l Gr (zc n w) 168 M_H_rush (d + 1) 0 [some (.ref 32), some (.int x1), some (.int x2), none] [] S Q := by
  refine z_go (Gr := Gr) (zc := zc n w) (K := 168) oV_H_rush 1 (pc' := 1) (L' := [some (.ref 32), some (.int x1), some (.int x2), none]) (st' := [.int x1]) rfl ?_
  exact z_iflt (Gr := Gr) (tgt := 15) (oV_H_rush.1 (1, .ifCond .lt 14) (ip_lk_mem rfl)) (by decide) (fun q => (z_forget (k0 q) trivial)) (fun q => (k1 q))
set_option maxRecDepth 100000 in
theorem b_H_rush_15 {l : Launch} {Gr : zG} {n w : Nat} {d : Nat} {S : zS} {Q : Option Value → zS → Prop}   (k0 : Q (some (.int (-1))) S) : zW l Gr (zc n w) 168 M_H_rush (d + 1) 15 [none, none, none, none] [] S Q := by
  refine z_go (Gr := Gr) (zc := zc n w) (K := 168) oV_H_rush 1 (pc' := 16) (L' := [none, none, none, none]) (st' := [.int (-1)]) rfl ?_
  exact z_ret (v := (some (.int (-1)))) (oV_H_rush.1 (16, .ireturn) (ip_lk_mem rfl)) k0
set_option maxRecDepth 100000 in
theorem b_H_rush_4 {l : Launch} {Gr : zG} {n w : Nat} {d : Nat} {S : zS} {Q : Option Value → zS → Prop} {x1 : Int32} {x2 : Int32}  (k0 : x2 < 0 → zW l Gr (zc n w) 168 M_H_rush (d + 1) 15 [none, none, none, none] [] S Q) (k1 : ¬ x2 < 0 → zW l Gr (zc n w) 168 M_H_rush (d + 1) 8 [some (.ref 32), some (.int x1), some (.int x2), none] [] S Q) : zW l Gr (zc n w) 168 M_H_rush (d + 1) 4 [some (.ref 32), some (.int x1), some (.int x2), none] [] S Q := by
  refine z_go (Gr := Gr) (zc := zc n w) (K := 168) oV_H_rush 1 (pc' := 5) (L' := [some (.ref 32), some (.int x1), some (.int x2), none]) (st' := [.int x2]) rfl ?_
  exact z_iflt (Gr := Gr) (tgt := 15) (oV_H_rush.1 (5, .ifCond .lt 10) (ip_lk_mem rfl)) (by decide) (fun q => (z_forget (k0 q) trivial)) (fun q => (k1 q))
set_option maxRecDepth 100000 in
theorem b_H_rush_8 {l : Launch} {Gr : zG} {n w : Nat} {d : Nat} {S : zS} {Q : Option Value → zS → Prop} {x1 : Int32} {x2 : Int32}  (k0 : x1 ≤ 100000 → zW l Gr (zc n w) 168 M_H_rush (d + 1) 17 [some (.ref 32), some (.int x1), some (.int x2), none] [] S Q) (k1 : ¬ x1 ≤ 100000 → zW l Gr (zc n w) 168 M_H_rush (d + 1) 15 [none, none, none, none] [] S Q) : zW l Gr (zc n w) 168 M_H_rush (d + 1) 8 [some (.ref 32), some (.int x1), some (.int x2), none] [] S Q := by
  refine z_go (Gr := Gr) (zc := zc n w) (K := 168) oV_H_rush 2 (pc' := 12) (L' := [some (.ref 32), some (.int x1), some (.int x2), none]) (st' := [.int 100000, .int x1]) rfl ?_
  exact z_icle (Gr := Gr) (tgt := 17) (oV_H_rush.1 (12, .if_icmp .le 5) (ip_lk_mem rfl)) (by decide) (fun q => (k0 q)) (fun q => (z_forget (k1 q) trivial))
set_option maxRecDepth 100000 in
theorem b_H_rush_17 {l : Launch} {Gr : zG} {n w : Nat} {d : Nat} {S : zS} {Q : Option Value → zS → Prop} {x1 : Int32} {x2 : Int32}  (k0 : zW l Gr (zc n w) 168 M_H_rush (d + 1) 19 [some (.ref 32), some (.int x1), some (.int x2), some (.int 0)] [] S Q) : zW l Gr (zc n w) 168 M_H_rush (d + 1) 17 [some (.ref 32), some (.int x1), some (.int x2), none] [] S Q := by
  refine z_go (Gr := Gr) (zc := zc n w) (K := 168) oV_H_rush 2 (pc' := 19) (L' := [some (.ref 32), some (.int x1), some (.int x2), some (.int 0)]) (st' := []) rfl ?_
  exact k0
set_option maxRecDepth 100000 in
theorem b_H_rush_19 {l : Launch} {Gr : zG} {n w : Nat} {d : Nat} {S : zS} {Q : Option Value → zS → Prop} {x1 : Int32} {x2 : Int32} {x3 : Int32}  (k0 : x1 ≤ x3 → zW l Gr (zc n w) 168 M_H_rush (d + 1) 64 [none, none, none, some (.int x3)] [] S Q) (k1 : ¬ x1 ≤ x3 → zW l Gr (zc n w) 168 M_H_rush (d + 1) 24 [some (.ref 32), some (.int x1), some (.int x2), some (.int x3)] [] S Q) : zW l Gr (zc n w) 168 M_H_rush (d + 1) 19 [some (.ref 32), some (.int x1), some (.int x2), some (.int x3)] [] S Q := by
  refine z_go (Gr := Gr) (zc := zc n w) (K := 168) oV_H_rush 2 (pc' := 21) (L' := [some (.ref 32), some (.int x1), some (.int x2), some (.int x3)]) (st' := [.int x1, .int x3]) rfl ?_
  exact z_icge (Gr := Gr) (tgt := 64) (oV_H_rush.1 (21, .if_icmp .ge 43) (ip_lk_mem rfl)) (by decide) (fun q => (z_forget (k0 q) (And.intro rfl trivial))) (fun q => (k1 q))
set_option maxRecDepth 100000 in
theorem b_H_rush_64 {l : Launch} {Gr : zG} {n w : Nat} {d : Nat} {S : zS} {Q : Option Value → zS → Prop} {x3 : Int32}  (k0 : Q (some (.int x3)) S) : zW l Gr (zc n w) 168 M_H_rush (d + 1) 64 [none, none, none, some (.int x3)] [] S Q := by
  refine z_go (Gr := Gr) (zc := zc n w) (K := 168) oV_H_rush 1 (pc' := 65) (L' := [none, none, none, some (.int x3)]) (st' := [.int x3]) rfl ?_
  exact z_ret (v := (some (.int x3))) (oV_H_rush.1 (65, .ireturn) (ip_lk_mem rfl)) k0
set_option maxRecDepth 100000 in
theorem b_H_rush_24 {l : Launch} {Gr : zG} {n w : Nat} {d : Nat} {S : zS} {Q : Option Value → zS → Prop} {x1 : Int32} {x2 : Int32} {x3 : Int32}  (k0 : (S.1 0 15) = 0 → zW l Gr (zc n w) 168 M_H_rush (d + 1) 64 [none, none, none, some (.int x3)] [] S Q) (k1 : ¬ (S.1 0 15) = 0 → zW l Gr (zc n w) 168 M_H_rush (d + 1) 31 [some (.ref 32), some (.int x1), some (.int x2), some (.int x3)] [] S Q) : zW l Gr (zc n w) 168 M_H_rush (d + 1) 24 [some (.ref 32), some (.int x1), some (.int x2), some (.int x3)] [] S Q := by
  refine z_go (Gr := Gr) (zc := zc n w) (K := 168) oV_H_rush 2 (pc' := 28) (L' := [some (.ref 32), some (.int x1), some (.int x2), some (.int x3)]) (st' := [.int (S.1 0 15)]) rfl ?_
  exact z_ifeq (Gr := Gr) (tgt := 64) (oV_H_rush.1 (28, .ifCond .eq 36) (ip_lk_mem rfl)) (by decide) (fun q => (z_forget (k0 q) (And.intro rfl trivial))) (fun q => (k1 q))
set_option maxRecDepth 100000 in
theorem b_H_rush_31 {l : Launch} {Gr : zG} {n w : Nat} {d : Nat} {S : zS} {Q : Option Value → zS → Prop} {x1 : Int32} {x2 : Int32} {x3 : Int32}  (k0 : (S.1 65 10) ≤ 0 → zW l Gr (zc n w) 168 M_H_rush (d + 1) 64 [none, none, none, some (.int x3)] [] S Q) (k1 : ¬ (S.1 65 10) ≤ 0 → zW l Gr (zc n w) 168 M_H_rush (d + 1) 41 [some (.ref 32), some (.int x1), some (.int x2), some (.int x3)] [] S Q) : zW l Gr (zc n w) 168 M_H_rush (d + 1) 31 [some (.ref 32), some (.int x1), some (.int x2), some (.int x3)] [] S Q := by
  refine z_go (Gr := Gr) (zc := zc n w) (K := 168) oV_H_rush 3 (pc' := 38) (L' := [some (.ref 32), some (.int x1), some (.int x2), some (.int x3)]) (st' := [.int (S.1 65 10)]) rfl ?_
  exact z_ifle (Gr := Gr) (tgt := 64) (oV_H_rush.1 (38, .ifCond .le 26) (ip_lk_mem rfl)) (by decide) (fun q => (z_forget (k0 q) (And.intro rfl trivial))) (fun q => (k1 q))
set_option maxRecDepth 100000 in
theorem b_H_rush_41 {l : Launch} {Gr : zG} {n w : Nat} {d : Nat} {S : zS} {Q : Option Value → zS → Prop} {R : Int32 → zS → Prop} (hg : ip_gk (lg_tbl, vwCl, Gr)) {x1 : Int32} {x2 : Int32} {x3 : Int32} (g0 : ¬ ((S.1 65 10) : Int32) = 0) (k0 : zMi l Gr (zc n w) 168 M_Post_bring d [.ref 97, .int (x2 - x2 / (S.1 65 10) * (S.1 65 10))] S R) (k1 : ∀ v S', R v S' → zW l Gr (zc n w) 168 M_H_rush (d + 1) 57 [some (.ref 32), some (.int x1), some (.int x2), some (.int x3)] [.int v] S' Q) : zW l Gr (zc n w) 168 M_H_rush (d + 1) 41 [some (.ref 32), some (.int x1), some (.int x2), some (.int x3)] [] S Q := by
  refine z_go (Gr := Gr) (zc := zc n w) (K := 168) oV_H_rush 6 (pc' := 53) (L' := [some (.ref 32), some (.int x1), some (.int x2), some (.int x3)]) (st' := [.int (S.1 65 10), .int x2, .ref 97]) rfl ?_
  refine z_irem (Gr := Gr) (oV_H_rush.1 (53, .irem) (ip_lk_mem rfl)) g0 ?_
  exact z_callV (Gr := Gr) hg.2.2.1 fT oM_Post_bring (oV_H_rush.1 (54, .invokevirtual 277) (ip_lk_mem rfl)) ⟨tt_6 _ (List.mem_of_getElem? (i := 203) rfl) rfl, tt_6 _ (List.mem_of_getElem? (i := 204) rfl) rfl, tt_6 _ (List.mem_of_getElem? (i := 205) rfl) rfl⟩ (c := 65) (ci := 7) (As := [.int (x2 - x2 / (S.1 65 10) * (S.1 65 10))]) rfl rfl rfl (by decide) rfl (Nat.le_of_ble_eq_true rfl) k0 (fun v S' q => by obtain ⟨x, rfl, q⟩ := q; exact (k1 _ _ q))
set_option maxRecDepth 100000 in
theorem b_H_rush_57 {l : Launch} {Gr : zG} {n w : Nat} {d : Nat} {S : zS} {Q : Option Value → zS → Prop} {x1 : Int32} {x2 : Int32} {x3 : Int32} {s0 : Int32}  (k0 : zW l Gr (zc n w) 168 M_H_rush (d + 1) 19 [some (.ref 32), some (.int x1), some (.int x2), some (.int (x3 + Int32.ofInt 1))] [] S Q) : zW l Gr (zc n w) 168 M_H_rush (d + 1) 57 [some (.ref 32), some (.int x1), some (.int x2), some (.int x3)] [.int s0] S Q := by
  refine z_go (Gr := Gr) (zc := zc n w) (K := 168) oV_H_rush 3 (pc' := 19) (L' := [some (.ref 32), some (.int x1), some (.int x2), some (.int (x3 + Int32.ofInt 1))]) (st' := []) rfl ?_
  exact k0
theorem e_H_rush {l : Launch} {Gr : zG} {n w : Nat} {d : Nat} {S : zS} {R : Int32 → zS → Prop} {x1 : Int32} {x2 : Int32} (k : zW l Gr (zc n w) 168 M_H_rush (d + 1) 0 [some (.ref 32), some (.int x1), some (.int x2), none] [] S (fun v S' => ∃ x, v = some (.int x) ∧ R x S')) : zMi l Gr (zc n w) 168 M_H_rush (d + 1) [.ref 32, .int x1, .int x2] S R := z_mi oM_H_rush rfl (Nat.le_of_ble_eq_true rfl) k
set_option maxRecDepth 100000 in
theorem b_H_party_0 {l : Launch} {Gr : zG} {n w : Nat} {d : Nat} {S : zS} {Q : Option Value → zS → Prop} {R : Int32 → zS → Prop} (hg : ip_gk (lg_tbl, vwCl, Gr)) {x1 : Int32} {x2 : Int32}  (k0 : zMi l Gr (zc n w) 168 M_H_isAtWork d [.ref 32, .int x1] S R) (k1 : ∀ v S', R v S' → zW l Gr (zc n w) 168 M_H_party (d + 1) 5 [some (.ref 32), some (.int x1), some (.int x2)] [.int v] S' Q) : zW l Gr (zc n w) 168 M_H_party (d + 1) 0 [some (.ref 32), some (.int x1), some (.int x2)] [] S Q := by
  refine z_go (Gr := Gr) (zc := zc n w) (K := 168) oV_H_party 2 (pc' := 2) (L' := [some (.ref 32), some (.int x1), some (.int x2)]) (st' := [.int x1, .ref 32]) rfl ?_
  exact z_callV (Gr := Gr) hg.2.2.1 fT oM_H_isAtWork (oV_H_party.1 (2, .invokevirtual 281) (ip_lk_mem rfl)) ⟨tt_6 _ (List.mem_of_getElem? (i := 226) rfl) rfl, tt_6 _ (List.mem_of_getElem? (i := 228) rfl) rfl, fS_H_isAtWork⟩ (c := 0) (ci := 11) (As := [.int x1]) rfl rfl rfl (by decide) rfl (Nat.le_of_ble_eq_true rfl) k0 (fun v S' q => by obtain ⟨x, rfl, q⟩ := q; exact (k1 _ _ q))
set_option maxRecDepth 100000 in
theorem b_H_party_5 {l : Launch} {Gr : zG} {n w : Nat} {d : Nat} {S : zS} {Q : Option Value → zS → Prop} {x1 : Int32} {x2 : Int32} {s0 : Int32}  (k0 : ¬ s0 = 0 → zW l Gr (zc n w) 168 M_H_party (d + 1) 10 [some (.ref 32), some (.int x1), some (.int x2)] [] S Q) (k1 : s0 = 0 → zW l Gr (zc n w) 168 M_H_party (d + 1) 8 [none, none, none] [] S Q) : zW l Gr (zc n w) 168 M_H_party (d + 1) 5 [some (.ref 32), some (.int x1), some (.int x2)] [.int s0] S Q := by
  exact z_ifne (Gr := Gr) (tgt := 10) (oV_H_party.1 (5, .ifCond .ne 5) (ip_lk_mem rfl)) (by decide) (fun q => (k0 q)) (fun q => (z_forget (k1 q) trivial))
set_option maxRecDepth 100000 in
theorem b_H_party_10 {l : Launch} {Gr : zG} {n w : Nat} {d : Nat} {S : zS} {Q : Option Value → zS → Prop} {x1 : Int32} {x2 : Int32}  (k0 : x2 = 0 → zW l Gr (zc n w) 168 M_H_party (d + 1) 36 [some (.ref 32), some (.int x1), none] [] S Q) (k1 : x2 = 1 → zW l Gr (zc n w) 168 M_H_party (d + 1) 46 [some (.ref 32), some (.int x1), none] [] S Q) (k2 : x2 = 2 → zW l Gr (zc n w) 168 M_H_party (d + 1) 56 [some (.ref 32), some (.int x1), none] [] S Q) (k3 : ¬ x2 = 0 → ¬ x2 = 1 → ¬ x2 = 2 → zW l Gr (zc n w) 168 M_H_party (d + 1) 65 [none, none, none] [] S Q) : zW l Gr (zc n w) 168 M_H_party (d + 1) 10 [some (.ref 32), some (.int x1), some (.int x2)] [] S Q := by
  refine z_go (Gr := Gr) (zc := zc n w) (K := 168) oV_H_party 1 (pc' := 11) (L' := [some (.ref 32), some (.int x1), some (.int x2)]) (st' := [.int x2]) rfl ?_
  by_cases q0 : x2 = 0
  · exact z_tabI (Gr := Gr) (tgt := 36) (oV_H_party.1 (11, .tableswitch 54 0 2 #[25, 35, 45]) (ip_lk_mem rfl)) (by rw [q0]; decide) (by rw [q0]; decide) (off := 25) (by rw [q0]; rfl) (by decide) (z_forget (k0 q0) (And.intro rfl (And.intro rfl trivial)))
  by_cases q1 : x2 = 1
  · exact z_tabI (Gr := Gr) (tgt := 46) (oV_H_party.1 (11, .tableswitch 54 0 2 #[25, 35, 45]) (ip_lk_mem rfl)) (by rw [q1]; decide) (by rw [q1]; decide) (off := 35) (by rw [q1]; rfl) (by decide) (z_forget (k1 q1) (And.intro rfl (And.intro rfl trivial)))
  by_cases q2 : x2 = 2
  · exact z_tabI (Gr := Gr) (tgt := 56) (oV_H_party.1 (11, .tableswitch 54 0 2 #[25, 35, 45]) (ip_lk_mem rfl)) (by rw [q2]; decide) (by rw [q2]; decide) (off := 45) (by rw [q2]; rfl) (by decide) (z_forget (k2 q2) (And.intro rfl (And.intro rfl trivial)))
  have hO : (x2).toInt < 0 ∨ 2 < (x2).toInt := by
    have r0 : ¬ (x2).toInt = 0 := fun h => q0 (Int32.toInt_inj.mp h)
    have r1 : ¬ (x2).toInt = 1 := fun h => q1 (Int32.toInt_inj.mp h)
    have r2 : ¬ (x2).toInt = 2 := fun h => q2 (Int32.toInt_inj.mp h)
    omega
  exact z_tabO (Gr := Gr) (tgt := 65) (oV_H_party.1 (11, .tableswitch 54 0 2 #[25, 35, 45]) (ip_lk_mem rfl)) hO (by decide) (z_forget (k3 q0 q1 q2) trivial)
set_option maxRecDepth 100000 in
theorem b_H_party_8 {l : Launch} {Gr : zG} {n w : Nat} {d : Nat} {S : zS} {Q : Option Value → zS → Prop}   (k0 : Q (some (.int (-1))) S) : zW l Gr (zc n w) 168 M_H_party (d + 1) 8 [none, none, none] [] S Q := by
  refine z_go (Gr := Gr) (zc := zc n w) (K := 168) oV_H_party 1 (pc' := 9) (L' := [none, none, none]) (st' := [.int (-1)]) rfl ?_
  exact z_ret (v := (some (.int (-1)))) (oV_H_party.1 (9, .ireturn) (ip_lk_mem rfl)) k0
set_option maxRecDepth 100000 in
theorem b_H_party_65 {l : Launch} {Gr : zG} {n w : Nat} {d : Nat} {S : zS} {Q : Option Value → zS → Prop}   (k0 : Q (some (.int (-1))) S) : zW l Gr (zc n w) 168 M_H_party (d + 1) 65 [none, none, none] [] S Q := by
  refine z_go (Gr := Gr) (zc := zc n w) (K := 168) oV_H_party 1 (pc' := 66) (L' := [none, none, none]) (st' := [.int (-1)]) rfl ?_
  exact z_ret (v := (some (.int (-1)))) (oV_H_party.1 (66, .ireturn) (ip_lk_mem rfl)) k0
set_option maxRecDepth 100000 in
theorem b_H_party_36 {l : Launch} {Gr : zG} {n w : Nat} {d : Nat} {S : zS} {Q : Option Value → zS → Prop} {x1 : Int32} (g0 : vp_in x1 n) (k0 : Q (some (.int (S.1 66 ((x1 : Int32).toNatClampNeg)))) S) : zW l Gr (zc n w) 168 M_H_party (d + 1) 36 [some (.ref 32), some (.int x1), none] [] S Q := by
  refine z_go (Gr := Gr) (zc := zc n w) (K := 168) oV_H_party 4 (pc' := 44) (L' := [some (.ref 32), some (.int x1), none]) (st' := [.int x1, .ref 98]) rfl ?_
  refine z_iald (Gr := Gr) (c := 66) (oV_H_party.1 (44, .iaload) (ip_lk_mem rfl)) (by decide) rfl g0 ?_
  exact z_ret (v := (some (.int (S.1 66 ((x1 : Int32).toNatClampNeg))))) (oV_H_party.1 (45, .ireturn) (ip_lk_mem rfl)) k0
set_option maxRecDepth 100000 in
theorem b_H_party_46 {l : Launch} {Gr : zG} {n w : Nat} {d : Nat} {S : zS} {Q : Option Value → zS → Prop} {x1 : Int32} (g0 : vp_in x1 n) (k0 : Q (some (.int (S.1 67 ((x1 : Int32).toNatClampNeg)))) S) : zW l Gr (zc n w) 168 M_H_party (d + 1) 46 [some (.ref 32), some (.int x1), none] [] S Q := by
  refine z_go (Gr := Gr) (zc := zc n w) (K := 168) oV_H_party 4 (pc' := 54) (L' := [some (.ref 32), some (.int x1), none]) (st' := [.int x1, .ref 99]) rfl ?_
  refine z_iald (Gr := Gr) (c := 67) (oV_H_party.1 (54, .iaload) (ip_lk_mem rfl)) (by decide) rfl g0 ?_
  exact z_ret (v := (some (.int (S.1 67 ((x1 : Int32).toNatClampNeg))))) (oV_H_party.1 (55, .ireturn) (ip_lk_mem rfl)) k0
set_option maxRecDepth 100000 in
theorem b_H_party_56 {l : Launch} {Gr : zG} {n w : Nat} {d : Nat} {S : zS} {Q : Option Value → zS → Prop} {R : Int32 → zS → Prop} (hg : ip_gk (lg_tbl, vwCl, Gr)) {x1 : Int32}  (k0 : zMi l Gr (zc n w) 168 M_Post_viewBits d [.ref 97, .int x1] S R) (k1 : ∀ v S', R v S' → zW l Gr (zc n w) 168 M_H_party (d + 1) 64 [none, none, none] [.int v] S' Q) : zW l Gr (zc n w) 168 M_H_party (d + 1) 56 [some (.ref 32), some (.int x1), none] [] S Q := by
  refine z_go (Gr := Gr) (zc := zc n w) (K := 168) oV_H_party 3 (pc' := 61) (L' := [some (.ref 32), some (.int x1), none]) (st' := [.int x1, .ref 97]) rfl ?_
  exact z_callV (Gr := Gr) hg.2.2.1 fT oM_Post_viewBits (oV_H_party.1 (61, .invokevirtual 290) (ip_lk_mem rfl)) ⟨tt_6 _ (List.mem_of_getElem? (i := 230) rfl) rfl, tt_6 _ (List.mem_of_getElem? (i := 231) rfl) rfl, tt_6 _ (List.mem_of_getElem? (i := 232) rfl) rfl⟩ (c := 65) (ci := 7) (As := [.int x1]) rfl rfl rfl (by decide) rfl (Nat.le_of_ble_eq_true rfl) k0 (fun v S' q => by obtain ⟨x, rfl, q⟩ := q; exact (z_forget (k1 _ _ q) trivial))
set_option maxRecDepth 100000 in
theorem b_H_party_64 {l : Launch} {Gr : zG} {n w : Nat} {d : Nat} {S : zS} {Q : Option Value → zS → Prop} {s0 : Int32}  (k0 : Q (some (.int s0)) S) : zW l Gr (zc n w) 168 M_H_party (d + 1) 64 [none, none, none] [.int s0] S Q := by
  exact z_ret (v := (some (.int s0))) (oV_H_party.1 (64, .ireturn) (ip_lk_mem rfl)) k0
theorem e_H_party {l : Launch} {Gr : zG} {n w : Nat} {d : Nat} {S : zS} {R : Int32 → zS → Prop} {x1 : Int32} {x2 : Int32} (k : zW l Gr (zc n w) 168 M_H_party (d + 1) 0 [some (.ref 32), some (.int x1), some (.int x2)] [] S (fun v S' => ∃ x, v = some (.int x) ∧ R x S')) : zMi l Gr (zc n w) 168 M_H_party (d + 1) [.ref 32, .int x1, .int x2] S R := z_mi oM_H_party rfl (Nat.le_of_ble_eq_true rfl) k
set_option maxRecDepth 100000 in
theorem b_H_dealt_0 {l : Launch} {Gr : zG} {n w : Nat} {d : Nat} {S : zS} {Q : Option Value → zS → Prop} {R : Int32 → zS → Prop} (hg : ip_gk (lg_tbl, vwCl, Gr)) {x1 : Int32} {x2 : Int32} {x3 : Int32}  (k0 : zMi l Gr (zc n w) 168 M_H_isAtWork d [.ref 32, .int x1] S R) (k1 : ∀ v S', R v S' → zW l Gr (zc n w) 168 M_H_dealt (d + 1) 5 [some (.ref 32), some (.int x1), some (.int x2), some (.int x3)] [.int v] S' Q) : zW l Gr (zc n w) 168 M_H_dealt (d + 1) 0 [some (.ref 32), some (.int x1), some (.int x2), some (.int x3)] [] S Q := by
  refine z_go (Gr := Gr) (zc := zc n w) (K := 168) oV_H_dealt 2 (pc' := 2) (L' := [some (.ref 32), some (.int x1), some (.int x2), some (.int x3)]) (st' := [.int x1, .ref 32]) rfl ?_
  exact z_callV (Gr := Gr) hg.2.2.1 fT oM_H_isAtWork (oV_H_dealt.1 (2, .invokevirtual 281) (ip_lk_mem rfl)) ⟨tt_6 _ (List.mem_of_getElem? (i := 226) rfl) rfl, tt_6 _ (List.mem_of_getElem? (i := 228) rfl) rfl, fS_H_isAtWork⟩ (c := 0) (ci := 11) (As := [.int x1]) rfl rfl rfl (by decide) rfl (Nat.le_of_ble_eq_true rfl) k0 (fun v S' q => by obtain ⟨x, rfl, q⟩ := q; exact (k1 _ _ q))
set_option maxRecDepth 100000 in
theorem b_H_dealt_5 {l : Launch} {Gr : zG} {n w : Nat} {d : Nat} {S : zS} {Q : Option Value → zS → Prop} {x1 : Int32} {x2 : Int32} {x3 : Int32} {s0 : Int32}  (k0 : s0 = 0 → zW l Gr (zc n w) 168 M_H_dealt (d + 1) 45 [none, none, none, none] [] S Q) (k1 : ¬ s0 = 0 → zW l Gr (zc n w) 168 M_H_dealt (d + 1) 8 [some (.ref 32), some (.int x1), some (.int x2), some (.int x3)] [] S Q) : zW l Gr (zc n w) 168 M_H_dealt (d + 1) 5 [some (.ref 32), some (.int x1), some (.int x2), some (.int x3)] [.int s0] S Q := by
  exact z_ifeq (Gr := Gr) (tgt := 45) (oV_H_dealt.1 (5, .ifCond .eq 40) (ip_lk_mem rfl)) (by decide) (fun q => (z_forget (k0 q) trivial)) (fun q => (k1 q))
set_option maxRecDepth 100000 in
theorem b_H_dealt_45 {l : Launch} {Gr : zG} {n w : Nat} {d : Nat} {S : zS} {Q : Option Value → zS → Prop}   (k0 : Q (some (.int (-1))) S) : zW l Gr (zc n w) 168 M_H_dealt (d + 1) 45 [none, none, none, none] [] S Q := by
  refine z_go (Gr := Gr) (zc := zc n w) (K := 168) oV_H_dealt 1 (pc' := 46) (L' := [none, none, none, none]) (st' := [.int (-1)]) rfl ?_
  exact z_ret (v := (some (.int (-1)))) (oV_H_dealt.1 (46, .ireturn) (ip_lk_mem rfl)) k0
set_option maxRecDepth 100000 in
theorem b_H_dealt_8 {l : Launch} {Gr : zG} {n w : Nat} {d : Nat} {S : zS} {Q : Option Value → zS → Prop} {x1 : Int32} {x2 : Int32} {x3 : Int32}  (k0 : x2 < 0 → zW l Gr (zc n w) 168 M_H_dealt (d + 1) 45 [none, none, none, none] [] S Q) (k1 : ¬ x2 < 0 → zW l Gr (zc n w) 168 M_H_dealt (d + 1) 12 [some (.ref 32), some (.int x1), some (.int x2), some (.int x3)] [] S Q) : zW l Gr (zc n w) 168 M_H_dealt (d + 1) 8 [some (.ref 32), some (.int x1), some (.int x2), some (.int x3)] [] S Q := by
  refine z_go (Gr := Gr) (zc := zc n w) (K := 168) oV_H_dealt 1 (pc' := 9) (L' := [some (.ref 32), some (.int x1), some (.int x2), some (.int x3)]) (st' := [.int x2]) rfl ?_
  exact z_iflt (Gr := Gr) (tgt := 45) (oV_H_dealt.1 (9, .ifCond .lt 36) (ip_lk_mem rfl)) (by decide) (fun q => (z_forget (k0 q) trivial)) (fun q => (k1 q))
set_option maxRecDepth 100000 in
theorem b_H_dealt_12 {l : Launch} {Gr : zG} {n w : Nat} {d : Nat} {S : zS} {Q : Option Value → zS → Prop} {x1 : Int32} {x2 : Int32} {x3 : Int32}  (k0 : (S.1 24 4) ≤ x2 → zW l Gr (zc n w) 168 M_H_dealt (d + 1) 45 [none, none, none, none] [] S Q) (k1 : ¬ (S.1 24 4) ≤ x2 → zW l Gr (zc n w) 168 M_H_dealt (d + 1) 23 [some (.ref 32), some (.int x1), some (.int x2), some (.int x3)] [] S Q) : zW l Gr (zc n w) 168 M_H_dealt (d + 1) 12 [some (.ref 32), some (.int x1), some (.int x2), some (.int x3)] [] S Q := by
  refine z_go (Gr := Gr) (zc := zc n w) (K := 168) oV_H_dealt 4 (pc' := 20) (L' := [some (.ref 32), some (.int x1), some (.int x2), some (.int x3)]) (st' := [.int (S.1 24 4), .int x2]) rfl ?_
  exact z_icge (Gr := Gr) (tgt := 45) (oV_H_dealt.1 (20, .if_icmp .ge 25) (ip_lk_mem rfl)) (by decide) (fun q => (z_forget (k0 q) trivial)) (fun q => (k1 q))
set_option maxRecDepth 100000 in
theorem b_H_dealt_23 {l : Launch} {Gr : zG} {n w : Nat} {d : Nat} {S : zS} {Q : Option Value → zS → Prop} {x1 : Int32} {x2 : Int32} {x3 : Int32} (g0 : vp_in x2 40000) (k0 : (S.1 28 ((x2 : Int32).toNatClampNeg)) = (-1) → zW l Gr (zc n w) 168 M_H_dealt (d + 1) 45 [none, none, none, none] [] S Q) (k1 : ¬ (S.1 28 ((x2 : Int32).toNatClampNeg)) = (-1) → zW l Gr (zc n w) 168 M_H_dealt (d + 1) 36 [some (.ref 32), some (.int x1), some (.int x2), some (.int x3)] [] S Q) : zW l Gr (zc n w) 168 M_H_dealt (d + 1) 23 [some (.ref 32), some (.int x1), some (.int x2), some (.int x3)] [] S Q := by
  refine z_go (Gr := Gr) (zc := zc n w) (K := 168) oV_H_dealt 4 (pc' := 31) (L' := [some (.ref 32), some (.int x1), some (.int x2), some (.int x3)]) (st' := [.int x2, .ref 60]) rfl ?_
  refine z_iald (Gr := Gr) (c := 28) (oV_H_dealt.1 (31, .iaload) (ip_lk_mem rfl)) (by decide) rfl g0 ?_
  refine z_go (Gr := Gr) (zc := zc n w) (K := 168) oV_H_dealt 1 (pc' := 33) (L' := [some (.ref 32), some (.int x1), some (.int x2), some (.int x3)]) (st' := [.int (-1), .int (S.1 28 ((x2 : Int32).toNatClampNeg))]) rfl ?_
  exact z_iceq (Gr := Gr) (tgt := 45) (oV_H_dealt.1 (33, .if_icmp .eq 12) (ip_lk_mem rfl)) (by decide) (fun q => (z_forget (k0 q) trivial)) (fun q => (k1 q))
set_option maxRecDepth 100000 in
theorem b_H_dealt_36 {l : Launch} {Gr : zG} {n w : Nat} {d : Nat} {S : zS} {Q : Option Value → zS → Prop} {x1 : Int32} {x2 : Int32} {x3 : Int32}  (k0 : x3 < 0 → zW l Gr (zc n w) 168 M_H_dealt (d + 1) 45 [none, none, none, none] [] S Q) (k1 : ¬ x3 < 0 → zW l Gr (zc n w) 168 M_H_dealt (d + 1) 40 [some (.ref 32), some (.int x1), some (.int x2), some (.int x3)] [] S Q) : zW l Gr (zc n w) 168 M_H_dealt (d + 1) 36 [some (.ref 32), some (.int x1), some (.int x2), some (.int x3)] [] S Q := by
  refine z_go (Gr := Gr) (zc := zc n w) (K := 168) oV_H_dealt 1 (pc' := 37) (L' := [some (.ref 32), some (.int x1), some (.int x2), some (.int x3)]) (st' := [.int x3]) rfl ?_
  exact z_iflt (Gr := Gr) (tgt := 45) (oV_H_dealt.1 (37, .ifCond .lt 8) (ip_lk_mem rfl)) (by decide) (fun q => (z_forget (k0 q) trivial)) (fun q => (k1 q))
set_option maxRecDepth 100000 in
theorem b_H_dealt_40 {l : Launch} {Gr : zG} {n w : Nat} {d : Nat} {S : zS} {Q : Option Value → zS → Prop} {x1 : Int32} {x2 : Int32} {x3 : Int32}  (k0 : x3 ≤ 2 → zW l Gr (zc n w) 168 M_H_dealt (d + 1) 47 [some (.ref 32), some (.int x1), some (.int x2), some (.int x3)] [] S Q) (k1 : ¬ x3 ≤ 2 → zW l Gr (zc n w) 168 M_H_dealt (d + 1) 45 [none, none, none, none] [] S Q) : zW l Gr (zc n w) 168 M_H_dealt (d + 1) 40 [some (.ref 32), some (.int x1), some (.int x2), some (.int x3)] [] S Q := by
  refine z_go (Gr := Gr) (zc := zc n w) (K := 168) oV_H_dealt 2 (pc' := 42) (L' := [some (.ref 32), some (.int x1), some (.int x2), some (.int x3)]) (st' := [.int 2, .int x3]) rfl ?_
  exact z_icle (Gr := Gr) (tgt := 47) (oV_H_dealt.1 (42, .if_icmp .le 5) (ip_lk_mem rfl)) (by decide) (fun q => (k0 q)) (fun q => (z_forget (k1 q) trivial))
set_option maxRecDepth 100000 in
theorem b_H_dealt_47 {l : Launch} {Gr : zG} {n w : Nat} {d : Nat} {S : zS} {Q : Option Value → zS → Prop} {R : Int32 → zS → Prop} (hg : ip_gk (lg_tbl, vwCl, Gr)) {x1 : Int32} {x2 : Int32} {x3 : Int32} (g0 : vp_in x2 40000) (k0 : zMi l Gr (zc n w) 168 M_Dealer_tripleBit d [.ref 91, .int (S.1 28 ((x2 : Int32).toNatClampNeg)), .int x3, .int x1] S R) (k1 : ∀ v S', R v S' → zW l Gr (zc n w) 168 M_H_dealt (d + 1) 65 [none, none, none, none] [.int v] S' Q) : zW l Gr (zc n w) 168 M_H_dealt (d + 1) 47 [some (.ref 32), some (.int x1), some (.int x2), some (.int x3)] [] S Q := by
  refine z_go (Gr := Gr) (zc := zc n w) (K := 168) oV_H_dealt 6 (pc' := 59) (L' := [some (.ref 32), some (.int x1), some (.int x2), some (.int x3)]) (st' := [.int x2, .ref 60, .ref 91]) rfl ?_
  refine z_iald (Gr := Gr) (c := 28) (oV_H_dealt.1 (59, .iaload) (ip_lk_mem rfl)) (by decide) rfl g0 ?_
  refine z_go (Gr := Gr) (zc := zc n w) (K := 168) oV_H_dealt 2 (pc' := 62) (L' := [some (.ref 32), some (.int x1), some (.int x2), some (.int x3)]) (st' := [.int x1, .int x3, .int (S.1 28 ((x2 : Int32).toNatClampNeg)), .ref 91]) rfl ?_
  exact z_callV (Gr := Gr) hg.2.2.1 fT oM_Dealer_tripleBit (oV_H_dealt.1 (62, .invokevirtual 293) (ip_lk_mem rfl)) ⟨tt_6 _ (List.mem_of_getElem? (i := 238) rfl) rfl, tt_6 _ (List.mem_of_getElem? (i := 196) rfl) rfl, tt_6 _ (List.mem_of_getElem? (i := 197) rfl) rfl⟩ (c := 59) (ci := 3) (As := [.int (S.1 28 ((x2 : Int32).toNatClampNeg)), .int x3, .int x1]) rfl rfl rfl (by decide) rfl (Nat.le_of_ble_eq_true rfl) k0 (fun v S' q => by obtain ⟨x, rfl, q⟩ := q; exact (z_forget (k1 _ _ q) trivial))
set_option maxRecDepth 100000 in
theorem b_H_dealt_65 {l : Launch} {Gr : zG} {n w : Nat} {d : Nat} {S : zS} {Q : Option Value → zS → Prop} {s0 : Int32}  (k0 : Q (some (.int s0)) S) : zW l Gr (zc n w) 168 M_H_dealt (d + 1) 65 [none, none, none, none] [.int s0] S Q := by
  exact z_ret (v := (some (.int s0))) (oV_H_dealt.1 (65, .ireturn) (ip_lk_mem rfl)) k0
theorem e_H_dealt {l : Launch} {Gr : zG} {n w : Nat} {d : Nat} {S : zS} {R : Int32 → zS → Prop} {x1 : Int32} {x2 : Int32} {x3 : Int32} (k : zW l Gr (zc n w) 168 M_H_dealt (d + 1) 0 [some (.ref 32), some (.int x1), some (.int x2), some (.int x3)] [] S (fun v S' => ∃ x, v = some (.int x) ∧ R x S')) : zMi l Gr (zc n w) 168 M_H_dealt (d + 1) [.ref 32, .int x1, .int x2, .int x3] S R := z_mi oM_H_dealt rfl (Nat.le_of_ble_eq_true rfl) k
set_option maxRecDepth 100000 in
theorem b_H_share_0 {l : Launch} {Gr : zG} {n w : Nat} {d : Nat} {S : zS} {Q : Option Value → zS → Prop} {R : Int32 → zS → Prop} (hg : ip_gk (lg_tbl, vwCl, Gr)) {x1 : Int32} {x2 : Int32}  (k0 : zMi l Gr (zc n w) 168 M_H_isAtWork d [.ref 32, .int x1] S R) (k1 : ∀ v S', R v S' → zW l Gr (zc n w) 168 M_H_share (d + 1) 5 [some (.ref 32), some (.int x1), some (.int x2)] [.int v] S' Q) : zW l Gr (zc n w) 168 M_H_share (d + 1) 0 [some (.ref 32), some (.int x1), some (.int x2)] [] S Q := by
  refine z_go (Gr := Gr) (zc := zc n w) (K := 168) oV_H_share 2 (pc' := 2) (L' := [some (.ref 32), some (.int x1), some (.int x2)]) (st' := [.int x1, .ref 32]) rfl ?_
  exact z_callV (Gr := Gr) hg.2.2.1 fT oM_H_isAtWork (oV_H_share.1 (2, .invokevirtual 281) (ip_lk_mem rfl)) ⟨tt_6 _ (List.mem_of_getElem? (i := 226) rfl) rfl, tt_6 _ (List.mem_of_getElem? (i := 228) rfl) rfl, fS_H_isAtWork⟩ (c := 0) (ci := 11) (As := [.int x1]) rfl rfl rfl (by decide) rfl (Nat.le_of_ble_eq_true rfl) k0 (fun v S' q => by obtain ⟨x, rfl, q⟩ := q; exact (k1 _ _ q))
set_option maxRecDepth 100000 in
theorem b_H_share_5 {l : Launch} {Gr : zG} {n w : Nat} {d : Nat} {S : zS} {Q : Option Value → zS → Prop} {x1 : Int32} {x2 : Int32} {s0 : Int32}  (k0 : s0 = 0 → zW l Gr (zc n w) 168 M_H_share (d + 1) 45 [none, none, none] [] S Q) (k1 : ¬ s0 = 0 → zW l Gr (zc n w) 168 M_H_share (d + 1) 8 [some (.ref 32), some (.int x1), some (.int x2)] [] S Q) : zW l Gr (zc n w) 168 M_H_share (d + 1) 5 [some (.ref 32), some (.int x1), some (.int x2)] [.int s0] S Q := by
  exact z_ifeq (Gr := Gr) (tgt := 45) (oV_H_share.1 (5, .ifCond .eq 40) (ip_lk_mem rfl)) (by decide) (fun q => (z_forget (k0 q) trivial)) (fun q => (k1 q))
set_option maxRecDepth 100000 in
theorem b_H_share_45 {l : Launch} {Gr : zG} {n w : Nat} {d : Nat} {S : zS} {Q : Option Value → zS → Prop}   (k0 : Q (some (.int (-1))) S) : zW l Gr (zc n w) 168 M_H_share (d + 1) 45 [none, none, none] [] S Q := by
  refine z_go (Gr := Gr) (zc := zc n w) (K := 168) oV_H_share 1 (pc' := 46) (L' := [none, none, none]) (st' := [.int (-1)]) rfl ?_
  exact z_ret (v := (some (.int (-1)))) (oV_H_share.1 (46, .ireturn) (ip_lk_mem rfl)) k0
set_option maxRecDepth 100000 in
theorem b_H_share_8 {l : Launch} {Gr : zG} {n w : Nat} {d : Nat} {S : zS} {Q : Option Value → zS → Prop} {x1 : Int32} {x2 : Int32}  (k0 : x2 < 0 → zW l Gr (zc n w) 168 M_H_share (d + 1) 45 [none, none, none] [] S Q) (k1 : ¬ x2 < 0 → zW l Gr (zc n w) 168 M_H_share (d + 1) 12 [some (.ref 32), some (.int x1), some (.int x2)] [] S Q) : zW l Gr (zc n w) 168 M_H_share (d + 1) 8 [some (.ref 32), some (.int x1), some (.int x2)] [] S Q := by
  refine z_go (Gr := Gr) (zc := zc n w) (K := 168) oV_H_share 1 (pc' := 9) (L' := [some (.ref 32), some (.int x1), some (.int x2)]) (st' := [.int x2]) rfl ?_
  exact z_iflt (Gr := Gr) (tgt := 45) (oV_H_share.1 (9, .ifCond .lt 36) (ip_lk_mem rfl)) (by decide) (fun q => (z_forget (k0 q) trivial)) (fun q => (k1 q))
set_option maxRecDepth 100000 in
theorem b_H_share_12 {l : Launch} {Gr : zG} {n w : Nat} {d : Nat} {S : zS} {Q : Option Value → zS → Prop} {R : Int32 → zS → Prop} (hg : ip_gk (lg_tbl, vwCl, Gr)) {x1 : Int32} {x2 : Int32}  (k0 : zMi l Gr (zc n w) 168 M_Circuit_wires d [.ref 56] S R) (k1 : ∀ v S', R v S' → zW l Gr (zc n w) 168 M_H_share (d + 1) 20 [some (.ref 32), some (.int x1), some (.int x2)] [.int v, .int x2] S' Q) : zW l Gr (zc n w) 168 M_H_share (d + 1) 12 [some (.ref 32), some (.int x1), some (.int x2)] [] S Q := by
  refine z_go (Gr := Gr) (zc := zc n w) (K := 168) oV_H_share 3 (pc' := 17) (L' := [some (.ref 32), some (.int x1), some (.int x2)]) (st' := [.ref 56, .int x2]) rfl ?_
  exact z_callV (Gr := Gr) hg.2.2.1 fT oM_Circuit_wires (oV_H_share.1 (17, .invokevirtual 297) (ip_lk_mem rfl)) ⟨tt_7 _ (List.mem_of_getElem? (i := 3) rfl) rfl, tt_6 _ (List.mem_of_getElem? (i := 124) rfl) rfl, tt_6 _ (List.mem_of_getElem? (i := 125) rfl) rfl⟩ (c := 24) (ci := 1) (As := []) rfl rfl rfl (by decide) rfl (Nat.le_of_ble_eq_true rfl) k0 (fun v S' q => by obtain ⟨x, rfl, q⟩ := q; exact (k1 _ _ q))
set_option maxRecDepth 100000 in
theorem b_H_share_20 {l : Launch} {Gr : zG} {n w : Nat} {d : Nat} {S : zS} {Q : Option Value → zS → Prop} {x1 : Int32} {x2 : Int32} {s0 : Int32} {s1 : Int32}  (k0 : s0 ≤ s1 → zW l Gr (zc n w) 168 M_H_share (d + 1) 45 [none, none, none] [] S Q) (k1 : ¬ s0 ≤ s1 → zW l Gr (zc n w) 168 M_H_share (d + 1) 23 [some (.ref 32), some (.int x1), some (.int x2)] [] S Q) : zW l Gr (zc n w) 168 M_H_share (d + 1) 20 [some (.ref 32), some (.int x1), some (.int x2)] [.int s0, .int s1] S Q := by
  exact z_icge (Gr := Gr) (tgt := 45) (oV_H_share.1 (20, .if_icmp .ge 25) (ip_lk_mem rfl)) (by decide) (fun q => (z_forget (k0 q) trivial)) (fun q => (k1 q))
set_option maxRecDepth 100000 in
theorem b_H_share_23 {l : Launch} {Gr : zG} {n w : Nat} {d : Nat} {S : zS} {Q : Option Value → zS → Prop} {R : Int32 → zS → Prop} (hg : ip_gk (lg_tbl, vwCl, Gr)) {x1 : Int32} {x2 : Int32}  (k0 : zMi l Gr (zc n w) 168 M_Circuit_levelOf d [.ref 56, .int (2 * x2)] S R) (k1 : ∀ v S', R v S' → zW l Gr (zc n w) 168 M_H_share (d + 1) 33 [some (.ref 32), some (.int x1), some (.int x2)] [.int v] S' Q) : zW l Gr (zc n w) 168 M_H_share (d + 1) 23 [some (.ref 32), some (.int x1), some (.int x2)] [] S Q := by
  refine z_go (Gr := Gr) (zc := zc n w) (K := 168) oV_H_share 5 (pc' := 30) (L' := [some (.ref 32), some (.int x1), some (.int x2)]) (st' := [.int (2 * x2), .ref 56]) rfl ?_
  exact z_callV (Gr := Gr) hg.2.2.1 fT oM_Circuit_levelOf (oV_H_share.1 (30, .invokevirtual 300) (ip_lk_mem rfl)) ⟨tt_7 _ (List.mem_of_getElem? (i := 4) rfl) rfl, tt_5 _ (List.mem_of_getElem? (i := 90) rfl) rfl, tt_5 _ (List.mem_of_getElem? (i := 91) rfl) rfl⟩ (c := 24) (ci := 1) (As := [.int (2 * x2)]) rfl rfl rfl (by decide) rfl (Nat.le_of_ble_eq_true rfl) k0 (fun v S' q => by obtain ⟨x, rfl, q⟩ := q; exact (k1 _ _ q))
set_option maxRecDepth 100000 in
theorem b_H_share_33 {l : Launch} {Gr : zG} {n w : Nat} {d : Nat} {S : zS} {Q : Option Value → zS → Prop} {x1 : Int32} {x2 : Int32} {s0 : Int32} (g0 : vp_in x1 n) (k0 : s0 < (S.1 66 ((x1 : Int32).toNatClampNeg)) → zW l Gr (zc n w) 168 M_H_share (d + 1) 47 [some (.ref 32), some (.int x1), some (.int x2)] [] S Q) (k1 : ¬ s0 < (S.1 66 ((x1 : Int32).toNatClampNeg)) → zW l Gr (zc n w) 168 M_H_share (d + 1) 45 [none, none, none] [] S Q) : zW l Gr (zc n w) 168 M_H_share (d + 1) 33 [some (.ref 32), some (.int x1), some (.int x2)] [.int s0] S Q := by
  refine z_go (Gr := Gr) (zc := zc n w) (K := 168) oV_H_share 4 (pc' := 41) (L' := [some (.ref 32), some (.int x1), some (.int x2)]) (st' := [.int x1, .ref 98, .int s0]) rfl ?_
  refine z_iald (Gr := Gr) (c := 66) (oV_H_share.1 (41, .iaload) (ip_lk_mem rfl)) (by decide) rfl g0 ?_
  exact z_iclt (Gr := Gr) (tgt := 47) (oV_H_share.1 (42, .if_icmp .lt 5) (ip_lk_mem rfl)) (by decide) (fun q => (k0 q)) (fun q => (z_forget (k1 q) trivial))
set_option maxRecDepth 100000 in
theorem b_H_share_47 {l : Launch} {Gr : zG} {n w : Nat} {d : Nat} {S : zS} {Q : Option Value → zS → Prop} {R : Int32 → zS → Prop} (hg : ip_gk (lg_tbl, vwCl, Gr)) {x1 : Int32} {x2 : Int32}  (k0 : zMi l Gr (zc n w) 168 M_Dealer_sharesOf d [.ref 91, .int (2 * x2)] S R) (k1 : ∀ v S', R v S' → zW l Gr (zc n w) 168 M_H_share (d + 1) 57 [none, some (.int x1), none] [.int v] S' Q) : zW l Gr (zc n w) 168 M_H_share (d + 1) 47 [some (.ref 32), some (.int x1), some (.int x2)] [] S Q := by
  refine z_go (Gr := Gr) (zc := zc n w) (K := 168) oV_H_share 5 (pc' := 54) (L' := [some (.ref 32), some (.int x1), some (.int x2)]) (st' := [.int (2 * x2), .ref 91]) rfl ?_
  exact z_callV (Gr := Gr) hg.2.2.1 fT oM_Dealer_sharesOf (oV_H_share.1 (54, .invokevirtual 303) (ip_lk_mem rfl)) ⟨tt_7 _ (List.mem_of_getElem? (i := 5) rfl) rfl, tt_6 _ (List.mem_of_getElem? (i := 128) rfl) rfl, tt_6 _ (List.mem_of_getElem? (i := 129) rfl) rfl⟩ (c := 59) (ci := 3) (As := [.int (2 * x2)]) rfl rfl rfl (by decide) rfl (Nat.le_of_ble_eq_true rfl) k0 (fun v S' q => by obtain ⟨x, rfl, q⟩ := q; exact (z_forget (k1 _ _ q) (And.intro rfl trivial)))
set_option maxRecDepth 100000 in
theorem b_H_share_57 {l : Launch} {Gr : zG} {n w : Nat} {d : Nat} {S : zS} {Q : Option Value → zS → Prop} {x1 : Int32} {s0 : Int32}  (k0 : Q (some (.int ((s0 >>> (x1 &&& 31)) &&& 1))) S) : zW l Gr (zc n w) 168 M_H_share (d + 1) 57 [none, some (.int x1), none] [.int s0] S Q := by
  refine z_go (Gr := Gr) (zc := zc n w) (K := 168) oV_H_share 4 (pc' := 61) (L' := [none, some (.int x1), none]) (st' := [.int ((s0 >>> (x1 &&& 31)) &&& 1)]) rfl ?_
  exact z_ret (v := (some (.int ((s0 >>> (x1 &&& 31)) &&& 1)))) (oV_H_share.1 (61, .ireturn) (ip_lk_mem rfl)) k0
theorem e_H_share {l : Launch} {Gr : zG} {n w : Nat} {d : Nat} {S : zS} {R : Int32 → zS → Prop} {x1 : Int32} {x2 : Int32} (k : zW l Gr (zc n w) 168 M_H_share (d + 1) 0 [some (.ref 32), some (.int x1), some (.int x2)] [] S (fun v S' => ∃ x, v = some (.int x) ∧ R x S')) : zMi l Gr (zc n w) 168 M_H_share (d + 1) [.ref 32, .int x1, .int x2] S R := z_mi oM_H_share rfl (Nat.le_of_ble_eq_true rfl) k
set_option maxRecDepth 100000 in
theorem b_H_view_0 {l : Launch} {Gr : zG} {n w : Nat} {d : Nat} {S : zS} {Q : Option Value → zS → Prop} {R : Int32 → zS → Prop} (hg : ip_gk (lg_tbl, vwCl, Gr)) {x1 : Int32} {x2 : Int32}  (k0 : zMi l Gr (zc n w) 168 M_H_isAtWork d [.ref 32, .int x1] S R) (k1 : ∀ v S', R v S' → zW l Gr (zc n w) 168 M_H_view (d + 1) 5 [some (.ref 32), some (.int x1), some (.int x2)] [.int v] S' Q) : zW l Gr (zc n w) 168 M_H_view (d + 1) 0 [some (.ref 32), some (.int x1), some (.int x2)] [] S Q := by
  refine z_go (Gr := Gr) (zc := zc n w) (K := 168) oV_H_view 2 (pc' := 2) (L' := [some (.ref 32), some (.int x1), some (.int x2)]) (st' := [.int x1, .ref 32]) rfl ?_
  exact z_callV (Gr := Gr) hg.2.2.1 fT oM_H_isAtWork (oV_H_view.1 (2, .invokevirtual 281) (ip_lk_mem rfl)) ⟨tt_6 _ (List.mem_of_getElem? (i := 226) rfl) rfl, tt_6 _ (List.mem_of_getElem? (i := 228) rfl) rfl, fS_H_isAtWork⟩ (c := 0) (ci := 11) (As := [.int x1]) rfl rfl rfl (by decide) rfl (Nat.le_of_ble_eq_true rfl) k0 (fun v S' q => by obtain ⟨x, rfl, q⟩ := q; exact (k1 _ _ q))
set_option maxRecDepth 100000 in
theorem b_H_view_5 {l : Launch} {Gr : zG} {n w : Nat} {d : Nat} {S : zS} {Q : Option Value → zS → Prop} {x1 : Int32} {x2 : Int32} {s0 : Int32}  (k0 : s0 = 0 → zW l Gr (zc n w) 168 M_H_view (d + 1) 36 [none, none, none] [] S Q) (k1 : ¬ s0 = 0 → zW l Gr (zc n w) 168 M_H_view (d + 1) 8 [some (.ref 32), some (.int x1), some (.int x2)] [] S Q) : zW l Gr (zc n w) 168 M_H_view (d + 1) 5 [some (.ref 32), some (.int x1), some (.int x2)] [.int s0] S Q := by
  exact z_ifeq (Gr := Gr) (tgt := 36) (oV_H_view.1 (5, .ifCond .eq 31) (ip_lk_mem rfl)) (by decide) (fun q => (z_forget (k0 q) trivial)) (fun q => (k1 q))
set_option maxRecDepth 100000 in
theorem b_H_view_36 {l : Launch} {Gr : zG} {n w : Nat} {d : Nat} {S : zS} {Q : Option Value → zS → Prop}   (k0 : zW l Gr (zc n w) 168 M_H_view (d + 1) 37 [none, none, none] [.int (-1)] S Q) : zW l Gr (zc n w) 168 M_H_view (d + 1) 36 [none, none, none] [] S Q := by
  refine z_go (Gr := Gr) (zc := zc n w) (K := 168) oV_H_view 1 (pc' := 37) (L' := [none, none, none]) (st' := [.int (-1)]) rfl ?_
  exact k0
set_option maxRecDepth 100000 in
theorem b_H_view_8 {l : Launch} {Gr : zG} {n w : Nat} {d : Nat} {S : zS} {Q : Option Value → zS → Prop} {x1 : Int32} {x2 : Int32}  (k0 : x2 < 0 → zW l Gr (zc n w) 168 M_H_view (d + 1) 36 [none, none, none] [] S Q) (k1 : ¬ x2 < 0 → zW l Gr (zc n w) 168 M_H_view (d + 1) 12 [some (.ref 32), some (.int x1), some (.int x2)] [] S Q) : zW l Gr (zc n w) 168 M_H_view (d + 1) 8 [some (.ref 32), some (.int x1), some (.int x2)] [] S Q := by
  refine z_go (Gr := Gr) (zc := zc n w) (K := 168) oV_H_view 1 (pc' := 9) (L' := [some (.ref 32), some (.int x1), some (.int x2)]) (st' := [.int x2]) rfl ?_
  exact z_iflt (Gr := Gr) (tgt := 36) (oV_H_view.1 (9, .ifCond .lt 27) (ip_lk_mem rfl)) (by decide) (fun q => (z_forget (k0 q) trivial)) (fun q => (k1 q))
set_option maxRecDepth 100000 in
theorem b_H_view_37 {l : Launch} {Gr : zG} {n w : Nat} {d : Nat} {S : zS} {Q : Option Value → zS → Prop} {s0 : Int32}  (k0 : Q (some (.int s0)) S) : zW l Gr (zc n w) 168 M_H_view (d + 1) 37 [none, none, none] [.int s0] S Q := by
  exact z_ret (v := (some (.int s0))) (oV_H_view.1 (37, .ireturn) (ip_lk_mem rfl)) k0
set_option maxRecDepth 100000 in
theorem b_H_view_12 {l : Launch} {Gr : zG} {n w : Nat} {d : Nat} {S : zS} {Q : Option Value → zS → Prop} {R : Int32 → zS → Prop} (hg : ip_gk (lg_tbl, vwCl, Gr)) {x1 : Int32} {x2 : Int32}  (k0 : zMi l Gr (zc n w) 168 M_Post_viewBits d [.ref 97, .int x1] S R) (k1 : ∀ v S', R v S' → zW l Gr (zc n w) 168 M_H_view (d + 1) 21 [some (.ref 32), some (.int x1), some (.int x2)] [.int v, .int x2] S' Q) : zW l Gr (zc n w) 168 M_H_view (d + 1) 12 [some (.ref 32), some (.int x1), some (.int x2)] [] S Q := by
  refine z_go (Gr := Gr) (zc := zc n w) (K := 168) oV_H_view 4 (pc' := 18) (L' := [some (.ref 32), some (.int x1), some (.int x2)]) (st' := [.int x1, .ref 97, .int x2]) rfl ?_
  exact z_callV (Gr := Gr) hg.2.2.1 fT oM_Post_viewBits (oV_H_view.1 (18, .invokevirtual 290) (ip_lk_mem rfl)) ⟨tt_6 _ (List.mem_of_getElem? (i := 230) rfl) rfl, tt_6 _ (List.mem_of_getElem? (i := 231) rfl) rfl, tt_6 _ (List.mem_of_getElem? (i := 232) rfl) rfl⟩ (c := 65) (ci := 7) (As := [.int x1]) rfl rfl rfl (by decide) rfl (Nat.le_of_ble_eq_true rfl) k0 (fun v S' q => by obtain ⟨x, rfl, q⟩ := q; exact (k1 _ _ q))
set_option maxRecDepth 100000 in
theorem b_H_view_21 {l : Launch} {Gr : zG} {n w : Nat} {d : Nat} {S : zS} {Q : Option Value → zS → Prop} {x1 : Int32} {x2 : Int32} {s0 : Int32} {s1 : Int32}  (k0 : s0 ≤ s1 → zW l Gr (zc n w) 168 M_H_view (d + 1) 36 [none, none, none] [] S Q) (k1 : ¬ s0 ≤ s1 → zW l Gr (zc n w) 168 M_H_view (d + 1) 24 [some (.ref 32), some (.int x1), some (.int x2)] [] S Q) : zW l Gr (zc n w) 168 M_H_view (d + 1) 21 [some (.ref 32), some (.int x1), some (.int x2)] [.int s0, .int s1] S Q := by
  exact z_icge (Gr := Gr) (tgt := 36) (oV_H_view.1 (21, .if_icmp .ge 15) (ip_lk_mem rfl)) (by decide) (fun q => (z_forget (k0 q) trivial)) (fun q => (k1 q))
set_option maxRecDepth 100000 in
theorem b_H_view_24 {l : Launch} {Gr : zG} {n w : Nat} {d : Nat} {S : zS} {Q : Option Value → zS → Prop} {R : Int32 → zS → Prop} (hg : ip_gk (lg_tbl, vwCl, Gr)) {x1 : Int32} {x2 : Int32}  (k0 : zMi l Gr (zc n w) 168 M_Post_viewBit d [.ref 97, .int x1, .int x2] S R) (k1 : ∀ v S', R v S' → zW l Gr (zc n w) 168 M_H_view (d + 1) 33 [none, none, none] [.int v] S' Q) : zW l Gr (zc n w) 168 M_H_view (d + 1) 24 [some (.ref 32), some (.int x1), some (.int x2)] [] S Q := by
  refine z_go (Gr := Gr) (zc := zc n w) (K := 168) oV_H_view 4 (pc' := 30) (L' := [some (.ref 32), some (.int x1), some (.int x2)]) (st' := [.int x2, .int x1, .ref 97]) rfl ?_
  exact z_callV (Gr := Gr) hg.2.2.1 fT oM_Post_viewBit (oV_H_view.1 (30, .invokevirtual 306) (ip_lk_mem rfl)) ⟨tt_7 _ (List.mem_of_getElem? (i := 10) rfl) rfl, tt_7 _ (List.mem_of_getElem? (i := 11) rfl) rfl, tt_7 _ (List.mem_of_getElem? (i := 12) rfl) rfl⟩ (c := 65) (ci := 7) (As := [.int x1, .int x2]) rfl rfl rfl (by decide) rfl (Nat.le_of_ble_eq_true rfl) k0 (fun v S' q => by obtain ⟨x, rfl, q⟩ := q; exact (z_forget (k1 _ _ q) trivial))
set_option maxRecDepth 100000 in
theorem b_H_view_33 {l : Launch} {Gr : zG} {n w : Nat} {d : Nat} {S : zS} {Q : Option Value → zS → Prop} {s0 : Int32}  (k0 : zW l Gr (zc n w) 168 M_H_view (d + 1) 37 [none, none, none] [.int s0] S Q) : zW l Gr (zc n w) 168 M_H_view (d + 1) 33 [none, none, none] [.int s0] S Q := by
  refine z_go (Gr := Gr) (zc := zc n w) (K := 168) oV_H_view 1 (pc' := 37) (L' := [none, none, none]) (st' := [.int s0]) rfl ?_
  exact k0
theorem e_H_view {l : Launch} {Gr : zG} {n w : Nat} {d : Nat} {S : zS} {R : Int32 → zS → Prop} {x1 : Int32} {x2 : Int32} (k : zW l Gr (zc n w) 168 M_H_view (d + 1) 0 [some (.ref 32), some (.int x1), some (.int x2)] [] S (fun v S' => ∃ x, v = some (.int x) ∧ R x S')) : zMi l Gr (zc n w) 168 M_H_view (d + 1) [.ref 32, .int x1, .int x2] S R := z_mi oM_H_view rfl (Nat.le_of_ble_eq_true rfl) k
set_option maxRecDepth 100000 in
theorem b_H_told_0 {l : Launch} {Gr : zG} {n w : Nat} {d : Nat} {S : zS} {Q : Option Value → zS → Prop} {R : Int32 → zS → Prop} (hg : ip_gk (lg_tbl, vwCl, Gr)) {x1 : Int32} {x2 : Int32}  (k0 : zMi l Gr (zc n w) 168 M_H_isAtWork d [.ref 32, .int x1] S R) (k1 : ∀ v S', R v S' → zW l Gr (zc n w) 168 M_H_told (d + 1) 5 [some (.ref 32), some (.int x1), some (.int x2), none, none, none] [.int v] S' Q) : zW l Gr (zc n w) 168 M_H_told (d + 1) 0 [some (.ref 32), some (.int x1), some (.int x2), none, none, none] [] S Q := by
  refine z_go (Gr := Gr) (zc := zc n w) (K := 168) oV_H_told 2 (pc' := 2) (L' := [some (.ref 32), some (.int x1), some (.int x2), none, none, none]) (st' := [.int x1, .ref 32]) rfl ?_
  exact z_callV (Gr := Gr) hg.2.2.1 fT oM_H_isAtWork (oV_H_told.1 (2, .invokevirtual 281) (ip_lk_mem rfl)) ⟨tt_6 _ (List.mem_of_getElem? (i := 226) rfl) rfl, tt_6 _ (List.mem_of_getElem? (i := 228) rfl) rfl, fS_H_isAtWork⟩ (c := 0) (ci := 11) (As := [.int x1]) rfl rfl rfl (by decide) rfl (Nat.le_of_ble_eq_true rfl) k0 (fun v S' q => by obtain ⟨x, rfl, q⟩ := q; exact (k1 _ _ q))
set_option maxRecDepth 100000 in
theorem b_H_told_5 {l : Launch} {Gr : zG} {n w : Nat} {d : Nat} {S : zS} {Q : Option Value → zS → Prop} {x1 : Int32} {x2 : Int32} {s0 : Int32}  (k0 : s0 = 0 → zW l Gr (zc n w) 168 M_H_told (d + 1) 27 [none, none, none, none, none, none] [] S Q) (k1 : ¬ s0 = 0 → zW l Gr (zc n w) 168 M_H_told (d + 1) 8 [some (.ref 32), some (.int x1), some (.int x2), none, none, none] [] S Q) : zW l Gr (zc n w) 168 M_H_told (d + 1) 5 [some (.ref 32), some (.int x1), some (.int x2), none, none, none] [.int s0] S Q := by
  exact z_ifeq (Gr := Gr) (tgt := 27) (oV_H_told.1 (5, .ifCond .eq 22) (ip_lk_mem rfl)) (by decide) (fun q => (z_forget (k0 q) trivial)) (fun q => (k1 q))
set_option maxRecDepth 100000 in
theorem b_H_told_27 {l : Launch} {Gr : zG} {n w : Nat} {d : Nat} {S : zS} {Q : Option Value → zS → Prop}   (k0 : Q (some (.long (-1))) S) : zW l Gr (zc n w) 168 M_H_told (d + 1) 27 [none, none, none, none, none, none] [] S Q := by
  refine z_go (Gr := Gr) (zc := zc n w) (K := 168) oV_H_told 1 (pc' := 30) (L' := [none, none, none, none, none, none]) (st' := [.long (-1)]) rfl ?_
  exact z_ret (v := (some (.long (-1)))) (oV_H_told.1 (30, .lreturn) (ip_lk_mem rfl)) k0
set_option maxRecDepth 100000 in
theorem b_H_told_8 {l : Launch} {Gr : zG} {n w : Nat} {d : Nat} {S : zS} {Q : Option Value → zS → Prop} {R : Int32 → zS → Prop} (hg : ip_gk (lg_tbl, vwCl, Gr)) {x1 : Int32} {x2 : Int32}  (k0 : zMi l Gr (zc n w) 168 M_H_hasOutput d [.ref 32, .int x2] S R) (k1 : ∀ v S', R v S' → zW l Gr (zc n w) 168 M_H_told (d + 1) 13 [some (.ref 32), some (.int x1), some (.int x2), none, none, none] [.int v] S' Q) : zW l Gr (zc n w) 168 M_H_told (d + 1) 8 [some (.ref 32), some (.int x1), some (.int x2), none, none, none] [] S Q := by
  refine z_go (Gr := Gr) (zc := zc n w) (K := 168) oV_H_told 2 (pc' := 10) (L' := [some (.ref 32), some (.int x1), some (.int x2), none, none, none]) (st' := [.int x2, .ref 32]) rfl ?_
  exact z_callV (Gr := Gr) hg.2.2.1 fT oM_H_hasOutput (oV_H_told.1 (10, .invokevirtual 204) (ip_lk_mem rfl)) ⟨tt_6 _ (List.mem_of_getElem? (i := 44) rfl) rfl, tt_6 _ (List.mem_of_getElem? (i := 46) rfl) rfl, fS_H_hasOutput⟩ (c := 0) (ci := 11) (As := [.int x2]) rfl rfl rfl (by decide) rfl (Nat.le_of_ble_eq_true rfl) k0 (fun v S' q => by obtain ⟨x, rfl, q⟩ := q; exact (k1 _ _ q))
set_option maxRecDepth 100000 in
theorem b_H_told_13 {l : Launch} {Gr : zG} {n w : Nat} {d : Nat} {S : zS} {Q : Option Value → zS → Prop} {x1 : Int32} {x2 : Int32} {s0 : Int32}  (k0 : s0 = 0 → zW l Gr (zc n w) 168 M_H_told (d + 1) 27 [none, none, none, none, none, none] [] S Q) (k1 : ¬ s0 = 0 → zW l Gr (zc n w) 168 M_H_told (d + 1) 16 [some (.ref 32), some (.int x1), some (.int x2), none, none, none] [] S Q) : zW l Gr (zc n w) 168 M_H_told (d + 1) 13 [some (.ref 32), some (.int x1), some (.int x2), none, none, none] [.int s0] S Q := by
  exact z_ifeq (Gr := Gr) (tgt := 27) (oV_H_told.1 (13, .ifCond .eq 14) (ip_lk_mem rfl)) (by decide) (fun q => (z_forget (k0 q) trivial)) (fun q => (k1 q))
set_option maxRecDepth 100000 in
theorem b_H_told_16 {l : Launch} {Gr : zG} {n w : Nat} {d : Nat} {S : zS} {Q : Option Value → zS → Prop} {R : Int32 → zS → Prop} (hg : ip_gk (lg_tbl, vwCl, Gr)) {x1 : Int32} {x2 : Int32}  (k0 : zMi l Gr (zc n w) 168 M_Post_isDone d [.ref 97, .int x1] S R) (k1 : ∀ v S', R v S' → zW l Gr (zc n w) 168 M_H_told (d + 1) 24 [some (.ref 32), none, some (.int x2), none, none, none] [.int v] S' Q) : zW l Gr (zc n w) 168 M_H_told (d + 1) 16 [some (.ref 32), some (.int x1), some (.int x2), none, none, none] [] S Q := by
  refine z_go (Gr := Gr) (zc := zc n w) (K := 168) oV_H_told 3 (pc' := 21) (L' := [some (.ref 32), some (.int x1), some (.int x2), none, none, none]) (st' := [.int x1, .ref 97]) rfl ?_
  exact z_callV (Gr := Gr) hg.2.2.1 fT oM_Post_isDone (oV_H_told.1 (21, .invokevirtual 309) (ip_lk_mem rfl)) ⟨tt_7 _ (List.mem_of_getElem? (i := 24) rfl) rfl, tt_6 _ (List.mem_of_getElem? (i := 214) rfl) rfl, tt_6 _ (List.mem_of_getElem? (i := 215) rfl) rfl⟩ (c := 65) (ci := 7) (As := [.int x1]) rfl rfl rfl (by decide) rfl (Nat.le_of_ble_eq_true rfl) k0 (fun v S' q => by obtain ⟨x, rfl, q⟩ := q; exact (z_forget (k1 _ _ q) (And.intro rfl (And.intro rfl trivial))))
set_option maxRecDepth 100000 in
theorem b_H_told_24 {l : Launch} {Gr : zG} {n w : Nat} {d : Nat} {S : zS} {Q : Option Value → zS → Prop} {x2 : Int32} {s0 : Int32}  (k0 : ¬ s0 = 0 → zW l Gr (zc n w) 168 M_H_told (d + 1) 31 [some (.ref 32), none, some (.int x2), none, none, none] [] S Q) (k1 : s0 = 0 → zW l Gr (zc n w) 168 M_H_told (d + 1) 27 [none, none, none, none, none, none] [] S Q) : zW l Gr (zc n w) 168 M_H_told (d + 1) 24 [some (.ref 32), none, some (.int x2), none, none, none] [.int s0] S Q := by
  exact z_ifne (Gr := Gr) (tgt := 31) (oV_H_told.1 (24, .ifCond .ne 7) (ip_lk_mem rfl)) (by decide) (fun q => (k0 q)) (fun q => (z_forget (k1 q) trivial))
set_option maxRecDepth 100000 in
theorem b_H_told_31 {l : Launch} {Gr : zG} {n w : Nat} {d : Nat} {S : zS} {Q : Option Value → zS → Prop} {x2 : Int32}  (k0 : zW l Gr (zc n w) 168 M_H_told (d + 1) 36 [some (.ref 32), none, some (.int x2), some (.long 0), none, some (.int 0)] [] S Q) : zW l Gr (zc n w) 168 M_H_told (d + 1) 31 [some (.ref 32), none, some (.int x2), none, none, none] [] S Q := by
  refine z_go (Gr := Gr) (zc := zc n w) (K := 168) oV_H_told 4 (pc' := 36) (L' := [some (.ref 32), none, some (.int x2), some (.long 0), none, some (.int 0)]) (st' := []) rfl ?_
  exact k0
set_option maxRecDepth 100000 in
theorem b_H_told_36 {l : Launch} {Gr : zG} {n w : Nat} {d : Nat} {S : zS} {Q : Option Value → zS → Prop} {R : Int32 → zS → Prop} (hg : ip_gk (lg_tbl, vwCl, Gr)) {x2 : Int32} {x3 : Int64} {x5 : Int32}  (k0 : zMi l Gr (zc n w) 168 M_Circuit_outputBits d [.ref 56, .int x2] S R) (k1 : ∀ v S', R v S' → zW l Gr (zc n w) 168 M_H_told (d + 1) 46 [some (.ref 32), none, some (.int x2), some (.long x3), none, some (.int x5)] [.int v, .int x5] S' Q) : zW l Gr (zc n w) 168 M_H_told (d + 1) 36 [some (.ref 32), none, some (.int x2), some (.long x3), none, some (.int x5)] [] S Q := by
  refine z_go (Gr := Gr) (zc := zc n w) (K := 168) oV_H_told 4 (pc' := 43) (L' := [some (.ref 32), none, some (.int x2), some (.long x3), none, some (.int x5)]) (st' := [.int x2, .ref 56, .int x5]) rfl ?_
  exact z_callV (Gr := Gr) hg.2.2.1 fT oM_Circuit_outputBits (oV_H_told.1 (43, .invokevirtual 207) (ip_lk_mem rfl)) ⟨tt_6 _ (List.mem_of_getElem? (i := 48) rfl) rfl, tt_6 _ (List.mem_of_getElem? (i := 49) rfl) rfl, tt_6 _ (List.mem_of_getElem? (i := 50) rfl) rfl⟩ (c := 24) (ci := 1) (As := [.int x2]) rfl rfl rfl (by decide) rfl (Nat.le_of_ble_eq_true rfl) k0 (fun v S' q => by obtain ⟨x, rfl, q⟩ := q; exact (k1 _ _ q))
set_option maxRecDepth 100000 in
theorem b_H_told_46 {l : Launch} {Gr : zG} {n w : Nat} {d : Nat} {S : zS} {Q : Option Value → zS → Prop} {x2 : Int32} {x3 : Int64} {x5 : Int32} {s0 : Int32} {s1 : Int32}  (k0 : s0 ≤ s1 → zW l Gr (zc n w) 168 M_H_told (d + 1) 82 [none, none, none, some (.long x3), none, none] [] S Q) (k1 : ¬ s0 ≤ s1 → zW l Gr (zc n w) 168 M_H_told (d + 1) 49 [some (.ref 32), none, some (.int x2), some (.long x3), none, some (.int x5)] [] S Q) : zW l Gr (zc n w) 168 M_H_told (d + 1) 46 [some (.ref 32), none, some (.int x2), some (.long x3), none, some (.int x5)] [.int s0, .int s1] S Q := by
  exact z_icge (Gr := Gr) (tgt := 82) (oV_H_told.1 (46, .if_icmp .ge 36) (ip_lk_mem rfl)) (by decide) (fun q => (z_forget (k0 q) (And.intro rfl trivial))) (fun q => (k1 q))
set_option maxRecDepth 100000 in
theorem b_H_told_82 {l : Launch} {Gr : zG} {n w : Nat} {d : Nat} {S : zS} {Q : Option Value → zS → Prop} {x3 : Int64}  (k0 : Q (some (.long x3)) S) : zW l Gr (zc n w) 168 M_H_told (d + 1) 82 [none, none, none, some (.long x3), none, none] [] S Q := by
  refine z_go (Gr := Gr) (zc := zc n w) (K := 168) oV_H_told 1 (pc' := 83) (L' := [none, none, none, some (.long x3), none, none]) (st' := [.long x3]) rfl ?_
  exact z_ret (v := (some (.long x3))) (oV_H_told.1 (83, .lreturn) (ip_lk_mem rfl)) k0
set_option maxRecDepth 100000 in
theorem b_H_told_49 {l : Launch} {Gr : zG} {n w : Nat} {d : Nat} {S : zS} {Q : Option Value → zS → Prop} {R : Int32 → zS → Prop} (hg : ip_gk (lg_tbl, vwCl, Gr)) {x2 : Int32} {x3 : Int64} {x5 : Int32}  (k0 : zMi l Gr (zc n w) 168 M_Circuit_outputLiteral d [.ref 56, .int x2, .int x5] S R) (k1 : ∀ v S', R v S' → zW l Gr (zc n w) 168 M_H_told (d + 1) 64 [some (.ref 32), none, some (.int x2), none, none, some (.int x5)] [.int v, .ref 91, .long x3] S' Q) : zW l Gr (zc n w) 168 M_H_told (d + 1) 49 [some (.ref 32), none, some (.int x2), some (.long x3), none, some (.int x5)] [] S Q := by
  refine z_go (Gr := Gr) (zc := zc n w) (K := 168) oV_H_told 7 (pc' := 61) (L' := [some (.ref 32), none, some (.int x2), some (.long x3), none, some (.int x5)]) (st' := [.int x5, .int x2, .ref 56, .ref 91, .long x3]) rfl ?_
  exact z_callV (Gr := Gr) hg.2.2.1 fT oM_Circuit_outputLiteral (oV_H_told.1 (61, .invokevirtual 210) (ip_lk_mem rfl)) ⟨tt_6 _ (List.mem_of_getElem? (i := 52) rfl) rfl, tt_6 _ (List.mem_of_getElem? (i := 53) rfl) rfl, tt_6 _ (List.mem_of_getElem? (i := 54) rfl) rfl⟩ (c := 24) (ci := 1) (As := [.int x2, .int x5]) rfl rfl rfl (by decide) rfl (Nat.le_of_ble_eq_true rfl) k0 (fun v S' q => by obtain ⟨x, rfl, q⟩ := q; exact (z_forget (k1 _ _ q) (And.intro rfl (And.intro rfl (And.intro rfl trivial)))))
set_option maxRecDepth 100000 in
theorem b_H_told_64 {l : Launch} {Gr : zG} {n w : Nat} {d : Nat} {S : zS} {Q : Option Value → zS → Prop} {R : Int32 → zS → Prop} (hg : ip_gk (lg_tbl, vwCl, Gr)) {x2 : Int32} {x5 : Int32} {s0 : Int32} {s2 : Int64}  (k0 : zMi l Gr (zc n w) 168 M_Dealer_sharesOf d [.ref 91, .int s0] S R) (k1 : ∀ v S', R v S' → zW l Gr (zc n w) 168 M_H_told (d + 1) 67 [some (.ref 32), none, some (.int x2), none, none, some (.int x5)] [.int v, .long s2] S' Q) : zW l Gr (zc n w) 168 M_H_told (d + 1) 64 [some (.ref 32), none, some (.int x2), none, none, some (.int x5)] [.int s0, .ref 91, .long s2] S Q := by
  exact z_callV (Gr := Gr) hg.2.2.1 fT oM_Dealer_sharesOf (oV_H_told.1 (64, .invokevirtual 303) (ip_lk_mem rfl)) ⟨tt_7 _ (List.mem_of_getElem? (i := 5) rfl) rfl, tt_6 _ (List.mem_of_getElem? (i := 128) rfl) rfl, tt_6 _ (List.mem_of_getElem? (i := 129) rfl) rfl⟩ (c := 59) (ci := 3) (As := [.int s0]) rfl rfl rfl (by decide) rfl (Nat.le_of_ble_eq_true rfl) k0 (fun v S' q => by obtain ⟨x, rfl, q⟩ := q; exact (k1 _ _ q))
set_option maxRecDepth 100000 in
theorem b_H_told_67 {l : Launch} {Gr : zG} {n w : Nat} {d : Nat} {S : zS} {Q : Option Value → zS → Prop} {R : Int32 → zS → Prop} (hg : ip_gk (lg_tbl, vwCl, Gr)) {x2 : Int32} {x5 : Int32} {s0 : Int32} {s1 : Int64}  (k0 : zMi l Gr (zc n w) 168 M_H_parity d [.int s0] S R) (k1 : ∀ v S', R v S' → zW l Gr (zc n w) 168 M_H_told (d + 1) 70 [some (.ref 32), none, some (.int x2), none, none, some (.int x5)] [.int v, .long s1] S' Q) : zW l Gr (zc n w) 168 M_H_told (d + 1) 67 [some (.ref 32), none, some (.int x2), none, none, some (.int x5)] [.int s0, .long s1] S Q := by
  exact z_callS (Gr := Gr) hg.2.2.1 fT oM_H_parity (oV_H_told.1 (67, .invokestatic 312) (ip_lk_mem rfl)) ⟨tt_7 _ (List.mem_of_getElem? (i := 25) rfl) rfl, tt_6 _ (List.mem_of_getElem? (i := 102) rfl) rfl⟩ (As := [.int s0]) rfl (Nat.le_of_ble_eq_true rfl) k0 (fun v S' q => by obtain ⟨x, rfl, q⟩ := q; exact (k1 _ _ q))
set_option maxRecDepth 100000 in
theorem b_H_told_70 {l : Launch} {Gr : zG} {n w : Nat} {d : Nat} {S : zS} {Q : Option Value → zS → Prop} {x2 : Int32} {x5 : Int32} {s0 : Int32} {s1 : Int64}  (k0 : zW l Gr (zc n w) 168 M_H_told (d + 1) 36 [some (.ref 32), none, some (.int x2), some (.long (s1 ||| (((s0 : Int32)).toInt64 <<< ((x5 : Int32).toInt64 &&& 63)))), none, some (.int (x5 + Int32.ofInt 1))] [] S Q) : zW l Gr (zc n w) 168 M_H_told (d + 1) 70 [some (.ref 32), none, some (.int x2), none, none, some (.int x5)] [.int s0, .long s1] S Q := by
  refine z_go (Gr := Gr) (zc := zc n w) (K := 168) oV_H_told 7 (pc' := 36) (L' := [some (.ref 32), none, some (.int x2), some (.long (s1 ||| (((s0 : Int32)).toInt64 <<< ((x5 : Int32).toInt64 &&& 63)))), none, some (.int (x5 + Int32.ofInt 1))]) (st' := []) rfl ?_
  exact k0
theorem e_H_told {l : Launch} {Gr : zG} {n w : Nat} {d : Nat} {S : zS} {R : Int64 → zS → Prop} {x1 : Int32} {x2 : Int32} (k : zW l Gr (zc n w) 168 M_H_told (d + 1) 0 [some (.ref 32), some (.int x1), some (.int x2), none, none, none] [] S (fun v S' => ∃ x, v = some (.long x) ∧ R x S')) : zMl l Gr (zc n w) 168 M_H_told (d + 1) [.ref 32, .int x1, .int x2] S R := z_ml oM_H_told rfl (Nat.le_of_ble_eq_true rfl) k
set_option maxRecDepth 100000 in
theorem b_H_truth_0 {l : Launch} {Gr : zG} {n w : Nat} {d : Nat} {S : zS} {Q : Option Value → zS → Prop} {R : Int32 → zS → Prop} (hg : ip_gk (lg_tbl, vwCl, Gr)) {x1 : Int32}  (k0 : zMi l Gr (zc n w) 168 M_H_hasOutput d [.ref 32, .int x1] S R) (k1 : ∀ v S', R v S' → zW l Gr (zc n w) 168 M_H_truth (d + 1) 5 [some (.ref 32), some (.int x1), none, none, none] [.int v] S' Q) : zW l Gr (zc n w) 168 M_H_truth (d + 1) 0 [some (.ref 32), some (.int x1), none, none, none] [] S Q := by
  refine z_go (Gr := Gr) (zc := zc n w) (K := 168) oV_H_truth 2 (pc' := 2) (L' := [some (.ref 32), some (.int x1), none, none, none]) (st' := [.int x1, .ref 32]) rfl ?_
  exact z_callV (Gr := Gr) hg.2.2.1 fT oM_H_hasOutput (oV_H_truth.1 (2, .invokevirtual 204) (ip_lk_mem rfl)) ⟨tt_6 _ (List.mem_of_getElem? (i := 44) rfl) rfl, tt_6 _ (List.mem_of_getElem? (i := 46) rfl) rfl, fS_H_hasOutput⟩ (c := 0) (ci := 11) (As := [.int x1]) rfl rfl rfl (by decide) rfl (Nat.le_of_ble_eq_true rfl) k0 (fun v S' q => by obtain ⟨x, rfl, q⟩ := q; exact (k1 _ _ q))
set_option maxRecDepth 100000 in
theorem b_H_truth_5 {l : Launch} {Gr : zG} {n w : Nat} {d : Nat} {S : zS} {Q : Option Value → zS → Prop} {x1 : Int32} {s0 : Int32}  (k0 : ¬ s0 = 0 → zW l Gr (zc n w) 168 M_H_truth (d + 1) 12 [some (.ref 32), some (.int x1), none, none, none] [] S Q) (k1 : s0 = 0 → zW l Gr (zc n w) 168 M_H_truth (d + 1) 8 [none, none, none, none, none] [] S Q) : zW l Gr (zc n w) 168 M_H_truth (d + 1) 5 [some (.ref 32), some (.int x1), none, none, none] [.int s0] S Q := by
  exact z_ifne (Gr := Gr) (tgt := 12) (oV_H_truth.1 (5, .ifCond .ne 7) (ip_lk_mem rfl)) (by decide) (fun q => (k0 q)) (fun q => (z_forget (k1 q) trivial))
set_option maxRecDepth 100000 in
theorem b_H_truth_12 {l : Launch} {Gr : zG} {n w : Nat} {d : Nat} {S : zS} {Q : Option Value → zS → Prop} {x1 : Int32}  (k0 : ¬ (S.1 0 16) = 0 → zW l Gr (zc n w) 168 M_H_truth (d + 1) 39 [some (.ref 32), some (.int x1), none, none, none] [] S Q) (k1 : (S.1 0 16) = 0 → zW l Gr (zc n w) 168 M_H_truth (d + 1) 19 [some (.ref 32), some (.int x1), none, none, none] [] S Q) : zW l Gr (zc n w) 168 M_H_truth (d + 1) 12 [some (.ref 32), some (.int x1), none, none, none] [] S Q := by
  refine z_go (Gr := Gr) (zc := zc n w) (K := 168) oV_H_truth 2 (pc' := 16) (L' := [some (.ref 32), some (.int x1), none, none, none]) (st' := [.int (S.1 0 16)]) rfl ?_
  exact z_ifne (Gr := Gr) (tgt := 39) (oV_H_truth.1 (16, .ifCond .ne 23) (ip_lk_mem rfl)) (by decide) (fun q => (k0 q)) (fun q => (k1 q))
set_option maxRecDepth 100000 in
theorem b_H_truth_8 {l : Launch} {Gr : zG} {n w : Nat} {d : Nat} {S : zS} {Q : Option Value → zS → Prop}   (k0 : Q (some (.long (-1))) S) : zW l Gr (zc n w) 168 M_H_truth (d + 1) 8 [none, none, none, none, none] [] S Q := by
  refine z_go (Gr := Gr) (zc := zc n w) (K := 168) oV_H_truth 1 (pc' := 11) (L' := [none, none, none, none, none]) (st' := [.long (-1)]) rfl ?_
  exact z_ret (v := (some (.long (-1)))) (oV_H_truth.1 (11, .lreturn) (ip_lk_mem rfl)) k0
set_option maxRecDepth 100000 in
theorem b_H_truth_39 {l : Launch} {Gr : zG} {n w : Nat} {d : Nat} {S : zS} {Q : Option Value → zS → Prop} {x1 : Int32}  (k0 : zW l Gr (zc n w) 168 M_H_truth (d + 1) 44 [some (.ref 32), some (.int x1), some (.long 0), none, some (.int 0)] [] S Q) : zW l Gr (zc n w) 168 M_H_truth (d + 1) 39 [some (.ref 32), some (.int x1), none, none, none] [] S Q := by
  refine z_go (Gr := Gr) (zc := zc n w) (K := 168) oV_H_truth 4 (pc' := 44) (L' := [some (.ref 32), some (.int x1), some (.long 0), none, some (.int 0)]) (st' := []) rfl ?_
  exact k0
set_option maxRecDepth 100000 in
theorem b_H_truth_19 {l : Launch} {Gr : zG} {n w : Nat} {d : Nat} {S : zS} {Q : Option Value → zS → Prop} {R : zS → Prop} (hg : ip_gk (lg_tbl, vwCl, Gr)) {x1 : Int32}  (k0 : zMv l Gr (zc n w) 168 M_Circuit_work d [.ref 56, .ref 49, .int (S.1 0 15)] S R) (k1 : ∀ S', R S' → zW l Gr (zc n w) 168 M_H_truth (d + 1) 34 [some (.ref 32), some (.int x1), none, none, none] [] S' Q) : zW l Gr (zc n w) 168 M_H_truth (d + 1) 19 [some (.ref 32), some (.int x1), none, none, none] [] S Q := by
  refine z_go (Gr := Gr) (zc := zc n w) (K := 168) oV_H_truth 6 (pc' := 31) (L' := [some (.ref 32), some (.int x1), none, none, none]) (st' := [.int (S.1 0 15), .ref 49, .ref 56]) rfl ?_
  exact z_callV (Gr := Gr) hg.2.2.1 fT oM_Circuit_work (oV_H_truth.1 (31, .invokevirtual 315) (ip_lk_mem rfl)) ⟨tt_7 _ (List.mem_of_getElem? (i := 30) rfl) rfl, tt_7 _ (List.mem_of_getElem? (i := 31) rfl) rfl, tt_7 _ (List.mem_of_getElem? (i := 32) rfl) rfl⟩ (c := 24) (ci := 1) (As := [.ref 49, .int (S.1 0 15)]) rfl rfl rfl (by decide) rfl (Nat.le_of_ble_eq_true rfl) k0 (fun v S' q => by obtain ⟨rfl, q⟩ := q; exact (k1 _ q))
set_option maxRecDepth 100000 in
theorem b_H_truth_44 {l : Launch} {Gr : zG} {n w : Nat} {d : Nat} {S : zS} {Q : Option Value → zS → Prop} {R : Int32 → zS → Prop} (hg : ip_gk (lg_tbl, vwCl, Gr)) {x1 : Int32} {x2 : Int64} {x4 : Int32}  (k0 : zMi l Gr (zc n w) 168 M_Circuit_outputBits d [.ref 56, .int x1] S R) (k1 : ∀ v S', R v S' → zW l Gr (zc n w) 168 M_H_truth (d + 1) 54 [some (.ref 32), some (.int x1), some (.long x2), none, some (.int x4)] [.int v, .int x4] S' Q) : zW l Gr (zc n w) 168 M_H_truth (d + 1) 44 [some (.ref 32), some (.int x1), some (.long x2), none, some (.int x4)] [] S Q := by
  refine z_go (Gr := Gr) (zc := zc n w) (K := 168) oV_H_truth 4 (pc' := 51) (L' := [some (.ref 32), some (.int x1), some (.long x2), none, some (.int x4)]) (st' := [.int x1, .ref 56, .int x4]) rfl ?_
  exact z_callV (Gr := Gr) hg.2.2.1 fT oM_Circuit_outputBits (oV_H_truth.1 (51, .invokevirtual 207) (ip_lk_mem rfl)) ⟨tt_6 _ (List.mem_of_getElem? (i := 48) rfl) rfl, tt_6 _ (List.mem_of_getElem? (i := 49) rfl) rfl, tt_6 _ (List.mem_of_getElem? (i := 50) rfl) rfl⟩ (c := 24) (ci := 1) (As := [.int x1]) rfl rfl rfl (by decide) rfl (Nat.le_of_ble_eq_true rfl) k0 (fun v S' q => by obtain ⟨x, rfl, q⟩ := q; exact (k1 _ _ q))
set_option maxRecDepth 100000 in
theorem b_H_truth_34 {l : Launch} {Gr : zG} {n w : Nat} {d : Nat} {S : zS} {Q : Option Value → zS → Prop} {x1 : Int32}  (k0 : zW l Gr (zc n w) 168 M_H_truth (d + 1) 39 [some (.ref 32), some (.int x1), none, none, none] [] (zi S 0 16 1) Q) : zW l Gr (zc n w) 168 M_H_truth (d + 1) 34 [some (.ref 32), some (.int x1), none, none, none] [] S Q := by
  refine z_go (Gr := Gr) (zc := zc n w) (K := 168) oV_H_truth 2 (pc' := 36) (L' := [some (.ref 32), some (.int x1), none, none, none]) (st' := [.int 1, .ref 32]) rfl ?_
  refine z_putI (Gr := Gr) (c := 0) (oV_H_truth.1 (36, .putfield 138) (ip_lk_mem rfl)) (oV_H_truth.2.1 (138, 11, 16, .boolean, false) (ip_lk_mem rfl)).1 (by decide) (zo_0 _ _ _ _) (zs_0_16 _ _ _ _ _) (zn_0_16 _ _ _ _) (by decide) ?_
  exact k0
set_option maxRecDepth 100000 in
theorem b_H_truth_54 {l : Launch} {Gr : zG} {n w : Nat} {d : Nat} {S : zS} {Q : Option Value → zS → Prop} {x1 : Int32} {x2 : Int64} {x4 : Int32} {s0 : Int32} {s1 : Int32}  (k0 : s0 ≤ s1 → zW l Gr (zc n w) 168 M_H_truth (d + 1) 87 [none, none, some (.long x2), none, none] [] S Q) (k1 : ¬ s0 ≤ s1 → zW l Gr (zc n w) 168 M_H_truth (d + 1) 57 [some (.ref 32), some (.int x1), some (.long x2), none, some (.int x4)] [] S Q) : zW l Gr (zc n w) 168 M_H_truth (d + 1) 54 [some (.ref 32), some (.int x1), some (.long x2), none, some (.int x4)] [.int s0, .int s1] S Q := by
  exact z_icge (Gr := Gr) (tgt := 87) (oV_H_truth.1 (54, .if_icmp .ge 33) (ip_lk_mem rfl)) (by decide) (fun q => (z_forget (k0 q) (And.intro rfl trivial))) (fun q => (k1 q))
set_option maxRecDepth 100000 in
theorem b_H_truth_87 {l : Launch} {Gr : zG} {n w : Nat} {d : Nat} {S : zS} {Q : Option Value → zS → Prop} {x2 : Int64}  (k0 : Q (some (.long x2)) S) : zW l Gr (zc n w) 168 M_H_truth (d + 1) 87 [none, none, some (.long x2), none, none] [] S Q := by
  refine z_go (Gr := Gr) (zc := zc n w) (K := 168) oV_H_truth 1 (pc' := 88) (L' := [none, none, some (.long x2), none, none]) (st' := [.long x2]) rfl ?_
  exact z_ret (v := (some (.long x2))) (oV_H_truth.1 (88, .lreturn) (ip_lk_mem rfl)) k0
set_option maxRecDepth 100000 in
theorem b_H_truth_57 {l : Launch} {Gr : zG} {n w : Nat} {d : Nat} {S : zS} {Q : Option Value → zS → Prop} {R : Int32 → zS → Prop} (hg : ip_gk (lg_tbl, vwCl, Gr)) {x1 : Int32} {x2 : Int64} {x4 : Int32}  (k0 : zMi l Gr (zc n w) 168 M_Circuit_outputLiteral d [.ref 56, .int x1, .int x4] S R) (k1 : ∀ v S', R v S' → zW l Gr (zc n w) 168 M_H_truth (d + 1) 72 [some (.ref 32), some (.int x1), none, none, some (.int x4)] [.int v, .ref 56, .long x2] S' Q) : zW l Gr (zc n w) 168 M_H_truth (d + 1) 57 [some (.ref 32), some (.int x1), some (.long x2), none, some (.int x4)] [] S Q := by
  refine z_go (Gr := Gr) (zc := zc n w) (K := 168) oV_H_truth 7 (pc' := 69) (L' := [some (.ref 32), some (.int x1), some (.long x2), none, some (.int x4)]) (st' := [.int x4, .int x1, .ref 56, .ref 56, .long x2]) rfl ?_
  exact z_callV (Gr := Gr) hg.2.2.1 fT oM_Circuit_outputLiteral (oV_H_truth.1 (69, .invokevirtual 210) (ip_lk_mem rfl)) ⟨tt_6 _ (List.mem_of_getElem? (i := 52) rfl) rfl, tt_6 _ (List.mem_of_getElem? (i := 53) rfl) rfl, tt_6 _ (List.mem_of_getElem? (i := 54) rfl) rfl⟩ (c := 24) (ci := 1) (As := [.int x1, .int x4]) rfl rfl rfl (by decide) rfl (Nat.le_of_ble_eq_true rfl) k0 (fun v S' q => by obtain ⟨x, rfl, q⟩ := q; exact (z_forget (k1 _ _ q) (And.intro rfl (And.intro rfl (And.intro rfl trivial)))))
set_option maxRecDepth 100000 in
theorem b_H_truth_72 {l : Launch} {Gr : zG} {n w : Nat} {d : Nat} {S : zS} {Q : Option Value → zS → Prop} {R : Int32 → zS → Prop} (hg : ip_gk (lg_tbl, vwCl, Gr)) {x1 : Int32} {x4 : Int32} {s0 : Int32} {s2 : Int64}  (k0 : zMi l Gr (zc n w) 168 M_Circuit_clearOf d [.ref 56, .int s0] S R) (k1 : ∀ v S', R v S' → zW l Gr (zc n w) 168 M_H_truth (d + 1) 75 [some (.ref 32), some (.int x1), none, none, some (.int x4)] [.int v, .long s2] S' Q) : zW l Gr (zc n w) 168 M_H_truth (d + 1) 72 [some (.ref 32), some (.int x1), none, none, some (.int x4)] [.int s0, .ref 56, .long s2] S Q := by
  exact z_callV (Gr := Gr) hg.2.2.1 fT oM_Circuit_clearOf (oV_H_truth.1 (72, .invokevirtual 319) (ip_lk_mem rfl)) ⟨tt_7 _ (List.mem_of_getElem? (i := 38) rfl) rfl, tt_7 _ (List.mem_of_getElem? (i := 35) rfl) rfl, tt_7 _ (List.mem_of_getElem? (i := 36) rfl) rfl⟩ (c := 24) (ci := 1) (As := [.int s0]) rfl rfl rfl (by decide) rfl (Nat.le_of_ble_eq_true rfl) k0 (fun v S' q => by obtain ⟨x, rfl, q⟩ := q; exact (k1 _ _ q))
set_option maxRecDepth 100000 in
theorem b_H_truth_75 {l : Launch} {Gr : zG} {n w : Nat} {d : Nat} {S : zS} {Q : Option Value → zS → Prop} {x1 : Int32} {x4 : Int32} {s0 : Int32} {s1 : Int64}  (k0 : zW l Gr (zc n w) 168 M_H_truth (d + 1) 44 [some (.ref 32), some (.int x1), some (.long (s1 ||| (((s0 : Int32)).toInt64 <<< ((x4 : Int32).toInt64 &&& 63)))), none, some (.int (x4 + Int32.ofInt 1))] [] S Q) : zW l Gr (zc n w) 168 M_H_truth (d + 1) 75 [some (.ref 32), some (.int x1), none, none, some (.int x4)] [.int s0, .long s1] S Q := by
  refine z_go (Gr := Gr) (zc := zc n w) (K := 168) oV_H_truth 7 (pc' := 44) (L' := [some (.ref 32), some (.int x1), some (.long (s1 ||| (((s0 : Int32)).toInt64 <<< ((x4 : Int32).toInt64 &&& 63)))), none, some (.int (x4 + Int32.ofInt 1))]) (st' := []) rfl ?_
  exact k0
theorem e_H_truth {l : Launch} {Gr : zG} {n w : Nat} {d : Nat} {S : zS} {R : Int64 → zS → Prop} {x1 : Int32} (k : zW l Gr (zc n w) 168 M_H_truth (d + 1) 0 [some (.ref 32), some (.int x1), none, none, none] [] S (fun v S' => ∃ x, v = some (.long x) ∧ R x S')) : zMl l Gr (zc n w) 168 M_H_truth (d + 1) [.ref 32, .int x1] S R := z_ml oM_H_truth rfl (Nat.le_of_ble_eq_true rfl) k
set_option maxRecDepth 100000 in
theorem b_Mo_look_0 {l : Launch} {Gr : zG} {n w : Nat} {d : Nat} {S : zS} {Q : Option Value → zS → Prop} {x1 : Int32}  (k0 : x1 ≤ 0 → zW l Gr (zc n w) 168 M_Mo_look (d + 1) 19 [some (.ref 105), some (.int x1)] [] S Q) (k1 : ¬ x1 ≤ 0 → zW l Gr (zc n w) 168 M_Mo_look (d + 1) 4 [some (.ref 105), some (.int x1)] [] S Q) : zW l Gr (zc n w) 168 M_Mo_look (d + 1) 0 [some (.ref 105), some (.int x1)] [] S Q := by
  refine z_go (Gr := Gr) (zc := zc n w) (K := 168) oV_Mo_look 1 (pc' := 1) (L' := [some (.ref 105), some (.int x1)]) (st' := [.int x1]) rfl ?_
  exact z_ifle (Gr := Gr) (tgt := 19) (oV_Mo_look.1 (1, .ifCond .le 18) (ip_lk_mem rfl)) (by decide) (fun q => (k0 q)) (fun q => (k1 q))
set_option maxRecDepth 100000 in
theorem b_Mo_look_19 {l : Launch} {Gr : zG} {n w : Nat} {d : Nat} {S : zS} {Q : Option Value → zS → Prop} {x1 : Int32}  (k0 : x1 = 0 → zW l Gr (zc n w) 168 M_Mo_look (d + 1) 96 [some (.ref 105), none] [] S Q) (k1 : x1 = 1 → zW l Gr (zc n w) 168 M_Mo_look (d + 1) 101 [some (.ref 105), none] [] S Q) (k2 : x1 = 2 → zW l Gr (zc n w) 168 M_Mo_look (d + 1) 106 [some (.ref 105), none] [] S Q) (k3 : x1 = 3 → zW l Gr (zc n w) 168 M_Mo_look (d + 1) 111 [some (.ref 105), none] [] S Q) (k4 : x1 = 4 → zW l Gr (zc n w) 168 M_Mo_look (d + 1) 116 [some (.ref 105), none] [] S Q) (k5 : x1 = 5 → zW l Gr (zc n w) 168 M_Mo_look (d + 1) 121 [some (.ref 105), none] [] S Q) (k6 : x1 = 6 → zW l Gr (zc n w) 168 M_Mo_look (d + 1) 126 [some (.ref 105), none] [] S Q) (k7 : x1 = 7 → zW l Gr (zc n w) 168 M_Mo_look (d + 1) 131 [some (.ref 105), none] [] S Q) (k8 : x1 = 8 → zW l Gr (zc n w) 168 M_Mo_look (d + 1) 157 [some (.ref 105), none] [] S Q) (k9 : x1 = 9 → zW l Gr (zc n w) 168 M_Mo_look (d + 1) 162 [some (.ref 105), none] [] S Q) (k10 : x1 = 10 → zW l Gr (zc n w) 168 M_Mo_look (d + 1) 167 [some (.ref 105), none] [] S Q) (k11 : x1 = 11 → zW l Gr (zc n w) 168 M_Mo_look (d + 1) 172 [some (.ref 105), none] [] S Q) (k12 : x1 = 12 → zW l Gr (zc n w) 168 M_Mo_look (d + 1) 177 [some (.ref 105), none] [] S Q) (k13 : x1 = 13 → zW l Gr (zc n w) 168 M_Mo_look (d + 1) 201 [some (.ref 105), none] [] S Q) (k14 : x1 = 14 → zW l Gr (zc n w) 168 M_Mo_look (d + 1) 206 [some (.ref 105), none] [] S Q) (k15 : ¬ x1 = 0 → ¬ x1 = 1 → ¬ x1 = 2 → ¬ x1 = 3 → ¬ x1 = 4 → ¬ x1 = 5 → ¬ x1 = 6 → ¬ x1 = 7 → ¬ x1 = 8 → ¬ x1 = 9 → ¬ x1 = 10 → ¬ x1 = 11 → ¬ x1 = 12 → ¬ x1 = 13 → ¬ x1 = 14 → zW l Gr (zc n w) 168 M_Mo_look (d + 1) 211 [none, none] [] S Q) : zW l Gr (zc n w) 168 M_Mo_look (d + 1) 19 [some (.ref 105), some (.int x1)] [] S Q := by
  refine z_go (Gr := Gr) (zc := zc n w) (K := 168) oV_Mo_look 1 (pc' := 20) (L' := [some (.ref 105), some (.int x1)]) (st' := [.int x1]) rfl ?_
  by_cases q0 : x1 = 0
  · exact z_tabI (Gr := Gr) (tgt := 96) (oV_Mo_look.1 (20, .tableswitch 191 0 14 #[76, 81, 86, 91, 96, 101, 106, 111, 137, 142, 147, 152, 157, 181, 186]) (ip_lk_mem rfl)) (by rw [q0]; decide) (by rw [q0]; decide) (off := 76) (by rw [q0]; rfl) (by decide) (z_forget (k0 q0) (And.intro rfl trivial))
  by_cases q1 : x1 = 1
  · exact z_tabI (Gr := Gr) (tgt := 101) (oV_Mo_look.1 (20, .tableswitch 191 0 14 #[76, 81, 86, 91, 96, 101, 106, 111, 137, 142, 147, 152, 157, 181, 186]) (ip_lk_mem rfl)) (by rw [q1]; decide) (by rw [q1]; decide) (off := 81) (by rw [q1]; rfl) (by decide) (z_forget (k1 q1) (And.intro rfl trivial))
  by_cases q2 : x1 = 2
  · exact z_tabI (Gr := Gr) (tgt := 106) (oV_Mo_look.1 (20, .tableswitch 191 0 14 #[76, 81, 86, 91, 96, 101, 106, 111, 137, 142, 147, 152, 157, 181, 186]) (ip_lk_mem rfl)) (by rw [q2]; decide) (by rw [q2]; decide) (off := 86) (by rw [q2]; rfl) (by decide) (z_forget (k2 q2) (And.intro rfl trivial))
  by_cases q3 : x1 = 3
  · exact z_tabI (Gr := Gr) (tgt := 111) (oV_Mo_look.1 (20, .tableswitch 191 0 14 #[76, 81, 86, 91, 96, 101, 106, 111, 137, 142, 147, 152, 157, 181, 186]) (ip_lk_mem rfl)) (by rw [q3]; decide) (by rw [q3]; decide) (off := 91) (by rw [q3]; rfl) (by decide) (z_forget (k3 q3) (And.intro rfl trivial))
  by_cases q4 : x1 = 4
  · exact z_tabI (Gr := Gr) (tgt := 116) (oV_Mo_look.1 (20, .tableswitch 191 0 14 #[76, 81, 86, 91, 96, 101, 106, 111, 137, 142, 147, 152, 157, 181, 186]) (ip_lk_mem rfl)) (by rw [q4]; decide) (by rw [q4]; decide) (off := 96) (by rw [q4]; rfl) (by decide) (z_forget (k4 q4) (And.intro rfl trivial))
  by_cases q5 : x1 = 5
  · exact z_tabI (Gr := Gr) (tgt := 121) (oV_Mo_look.1 (20, .tableswitch 191 0 14 #[76, 81, 86, 91, 96, 101, 106, 111, 137, 142, 147, 152, 157, 181, 186]) (ip_lk_mem rfl)) (by rw [q5]; decide) (by rw [q5]; decide) (off := 101) (by rw [q5]; rfl) (by decide) (z_forget (k5 q5) (And.intro rfl trivial))
  by_cases q6 : x1 = 6
  · exact z_tabI (Gr := Gr) (tgt := 126) (oV_Mo_look.1 (20, .tableswitch 191 0 14 #[76, 81, 86, 91, 96, 101, 106, 111, 137, 142, 147, 152, 157, 181, 186]) (ip_lk_mem rfl)) (by rw [q6]; decide) (by rw [q6]; decide) (off := 106) (by rw [q6]; rfl) (by decide) (z_forget (k6 q6) (And.intro rfl trivial))
  by_cases q7 : x1 = 7
  · exact z_tabI (Gr := Gr) (tgt := 131) (oV_Mo_look.1 (20, .tableswitch 191 0 14 #[76, 81, 86, 91, 96, 101, 106, 111, 137, 142, 147, 152, 157, 181, 186]) (ip_lk_mem rfl)) (by rw [q7]; decide) (by rw [q7]; decide) (off := 111) (by rw [q7]; rfl) (by decide) (z_forget (k7 q7) (And.intro rfl trivial))
  by_cases q8 : x1 = 8
  · exact z_tabI (Gr := Gr) (tgt := 157) (oV_Mo_look.1 (20, .tableswitch 191 0 14 #[76, 81, 86, 91, 96, 101, 106, 111, 137, 142, 147, 152, 157, 181, 186]) (ip_lk_mem rfl)) (by rw [q8]; decide) (by rw [q8]; decide) (off := 137) (by rw [q8]; rfl) (by decide) (z_forget (k8 q8) (And.intro rfl trivial))
  by_cases q9 : x1 = 9
  · exact z_tabI (Gr := Gr) (tgt := 162) (oV_Mo_look.1 (20, .tableswitch 191 0 14 #[76, 81, 86, 91, 96, 101, 106, 111, 137, 142, 147, 152, 157, 181, 186]) (ip_lk_mem rfl)) (by rw [q9]; decide) (by rw [q9]; decide) (off := 142) (by rw [q9]; rfl) (by decide) (z_forget (k9 q9) (And.intro rfl trivial))
  by_cases q10 : x1 = 10
  · exact z_tabI (Gr := Gr) (tgt := 167) (oV_Mo_look.1 (20, .tableswitch 191 0 14 #[76, 81, 86, 91, 96, 101, 106, 111, 137, 142, 147, 152, 157, 181, 186]) (ip_lk_mem rfl)) (by rw [q10]; decide) (by rw [q10]; decide) (off := 147) (by rw [q10]; rfl) (by decide) (z_forget (k10 q10) (And.intro rfl trivial))
  by_cases q11 : x1 = 11
  · exact z_tabI (Gr := Gr) (tgt := 172) (oV_Mo_look.1 (20, .tableswitch 191 0 14 #[76, 81, 86, 91, 96, 101, 106, 111, 137, 142, 147, 152, 157, 181, 186]) (ip_lk_mem rfl)) (by rw [q11]; decide) (by rw [q11]; decide) (off := 152) (by rw [q11]; rfl) (by decide) (z_forget (k11 q11) (And.intro rfl trivial))
  by_cases q12 : x1 = 12
  · exact z_tabI (Gr := Gr) (tgt := 177) (oV_Mo_look.1 (20, .tableswitch 191 0 14 #[76, 81, 86, 91, 96, 101, 106, 111, 137, 142, 147, 152, 157, 181, 186]) (ip_lk_mem rfl)) (by rw [q12]; decide) (by rw [q12]; decide) (off := 157) (by rw [q12]; rfl) (by decide) (z_forget (k12 q12) (And.intro rfl trivial))
  by_cases q13 : x1 = 13
  · exact z_tabI (Gr := Gr) (tgt := 201) (oV_Mo_look.1 (20, .tableswitch 191 0 14 #[76, 81, 86, 91, 96, 101, 106, 111, 137, 142, 147, 152, 157, 181, 186]) (ip_lk_mem rfl)) (by rw [q13]; decide) (by rw [q13]; decide) (off := 181) (by rw [q13]; rfl) (by decide) (z_forget (k13 q13) (And.intro rfl trivial))
  by_cases q14 : x1 = 14
  · exact z_tabI (Gr := Gr) (tgt := 206) (oV_Mo_look.1 (20, .tableswitch 191 0 14 #[76, 81, 86, 91, 96, 101, 106, 111, 137, 142, 147, 152, 157, 181, 186]) (ip_lk_mem rfl)) (by rw [q14]; decide) (by rw [q14]; decide) (off := 186) (by rw [q14]; rfl) (by decide) (z_forget (k14 q14) (And.intro rfl trivial))
  have hO : (x1).toInt < 0 ∨ 14 < (x1).toInt := by
    have r0 : ¬ (x1).toInt = 0 := fun h => q0 (Int32.toInt_inj.mp h)
    have r1 : ¬ (x1).toInt = 1 := fun h => q1 (Int32.toInt_inj.mp h)
    have r2 : ¬ (x1).toInt = 2 := fun h => q2 (Int32.toInt_inj.mp h)
    have r3 : ¬ (x1).toInt = 3 := fun h => q3 (Int32.toInt_inj.mp h)
    have r4 : ¬ (x1).toInt = 4 := fun h => q4 (Int32.toInt_inj.mp h)
    have r5 : ¬ (x1).toInt = 5 := fun h => q5 (Int32.toInt_inj.mp h)
    have r6 : ¬ (x1).toInt = 6 := fun h => q6 (Int32.toInt_inj.mp h)
    have r7 : ¬ (x1).toInt = 7 := fun h => q7 (Int32.toInt_inj.mp h)
    have r8 : ¬ (x1).toInt = 8 := fun h => q8 (Int32.toInt_inj.mp h)
    have r9 : ¬ (x1).toInt = 9 := fun h => q9 (Int32.toInt_inj.mp h)
    have r10 : ¬ (x1).toInt = 10 := fun h => q10 (Int32.toInt_inj.mp h)
    have r11 : ¬ (x1).toInt = 11 := fun h => q11 (Int32.toInt_inj.mp h)
    have r12 : ¬ (x1).toInt = 12 := fun h => q12 (Int32.toInt_inj.mp h)
    have r13 : ¬ (x1).toInt = 13 := fun h => q13 (Int32.toInt_inj.mp h)
    have r14 : ¬ (x1).toInt = 14 := fun h => q14 (Int32.toInt_inj.mp h)
    omega
  exact z_tabO (Gr := Gr) (tgt := 211) (oV_Mo_look.1 (20, .tableswitch 191 0 14 #[76, 81, 86, 91, 96, 101, 106, 111, 137, 142, 147, 152, 157, 181, 186]) (ip_lk_mem rfl)) hO (by decide) (z_forget (k15 q0 q1 q2 q3 q4 q5 q6 q7 q8 q9 q10 q11 q12 q13 q14) trivial)
set_option maxRecDepth 100000 in
theorem b_Mo_look_4 {l : Launch} {Gr : zG} {n w : Nat} {d : Nat} {S : zS} {Q : Option Value → zS → Prop} {x1 : Int32}  (k0 : 9 ≤ x1 → zW l Gr (zc n w) 168 M_Mo_look (d + 1) 19 [some (.ref 105), some (.int x1)] [] S Q) (k1 : ¬ 9 ≤ x1 → zW l Gr (zc n w) 168 M_Mo_look (d + 1) 10 [some (.ref 105), some (.int x1)] [] S Q) : zW l Gr (zc n w) 168 M_Mo_look (d + 1) 4 [some (.ref 105), some (.int x1)] [] S Q := by
  refine z_go (Gr := Gr) (zc := zc n w) (K := 168) oV_Mo_look 2 (pc' := 7) (L' := [some (.ref 105), some (.int x1)]) (st' := [.int 9, .int x1]) rfl ?_
  exact z_icge (Gr := Gr) (tgt := 19) (oV_Mo_look.1 (7, .if_icmp .ge 12) (ip_lk_mem rfl)) (by decide) (fun q => (k0 q)) (fun q => (k1 q))
set_option maxRecDepth 100000 in
theorem b_Mo_look_211 {l : Launch} {Gr : zG} {n w : Nat} {d : Nat} {S : zS} {Q : Option Value → zS → Prop}   (k0 : Q (some (.int (-1))) S) : zW l Gr (zc n w) 168 M_Mo_look (d + 1) 211 [none, none] [] S Q := by
  refine z_go (Gr := Gr) (zc := zc n w) (K := 168) oV_Mo_look 1 (pc' := 212) (L' := [none, none]) (st' := [.int (-1)]) rfl ?_
  exact z_ret (v := (some (.int (-1)))) (oV_Mo_look.1 (212, .ireturn) (ip_lk_mem rfl)) k0
set_option maxRecDepth 100000 in
theorem b_Mo_look_96 {l : Launch} {Gr : zG} {n w : Nat} {d : Nat} {S : zS} {Q : Option Value → zS → Prop}   (k0 : Q (some (.int (if S.1 73 7 = 0 then -1 else S.1 73 8))) S) : zW l Gr (zc n w) 168 M_Mo_look (d + 1) 96 [some (.ref 105), none] [] S Q := by
  refine z_go (Gr := Gr) (zc := zc n w) (K := 168) oV_Mo_look 2 (pc' := 100) (L' := [some (.ref 105), none]) (st' := [.int (if S.1 73 7 = 0 then -1 else S.1 73 8)]) rfl ?_
  exact z_ret (v := (some (.int (if S.1 73 7 = 0 then -1 else S.1 73 8)))) (oV_Mo_look.1 (100, .ireturn) (ip_lk_mem rfl)) k0
set_option maxRecDepth 100000 in
theorem b_Mo_look_101 {l : Launch} {Gr : zG} {n w : Nat} {d : Nat} {S : zS} {Q : Option Value → zS → Prop}   (k0 : Q (some (.int (S.1 73 66))) S) : zW l Gr (zc n w) 168 M_Mo_look (d + 1) 101 [some (.ref 105), none] [] S Q := by
  refine z_go (Gr := Gr) (zc := zc n w) (K := 168) oV_Mo_look 2 (pc' := 105) (L' := [some (.ref 105), none]) (st' := [.int (S.1 73 66)]) rfl ?_
  exact z_ret (v := (some (.int (S.1 73 66)))) (oV_Mo_look.1 (105, .ireturn) (ip_lk_mem rfl)) k0
set_option maxRecDepth 100000 in
theorem b_Mo_look_106 {l : Launch} {Gr : zG} {n w : Nat} {d : Nat} {S : zS} {Q : Option Value → zS → Prop}   (k0 : Q (some (.int (S.1 73 67))) S) : zW l Gr (zc n w) 168 M_Mo_look (d + 1) 106 [some (.ref 105), none] [] S Q := by
  refine z_go (Gr := Gr) (zc := zc n w) (K := 168) oV_Mo_look 2 (pc' := 110) (L' := [some (.ref 105), none]) (st' := [.int (S.1 73 67)]) rfl ?_
  exact z_ret (v := (some (.int (S.1 73 67)))) (oV_Mo_look.1 (110, .ireturn) (ip_lk_mem rfl)) k0
set_option maxRecDepth 100000 in
theorem b_Mo_look_111 {l : Launch} {Gr : zG} {n w : Nat} {d : Nat} {S : zS} {Q : Option Value → zS → Prop}   (k0 : Q (some (.int (S.1 73 68))) S) : zW l Gr (zc n w) 168 M_Mo_look (d + 1) 111 [some (.ref 105), none] [] S Q := by
  refine z_go (Gr := Gr) (zc := zc n w) (K := 168) oV_Mo_look 2 (pc' := 115) (L' := [some (.ref 105), none]) (st' := [.int (S.1 73 68)]) rfl ?_
  exact z_ret (v := (some (.int (S.1 73 68)))) (oV_Mo_look.1 (115, .ireturn) (ip_lk_mem rfl)) k0
set_option maxRecDepth 100000 in
theorem b_Mo_look_116 {l : Launch} {Gr : zG} {n w : Nat} {d : Nat} {S : zS} {Q : Option Value → zS → Prop}   (k0 : Q (some (.int (S.1 73 65))) S) : zW l Gr (zc n w) 168 M_Mo_look (d + 1) 116 [some (.ref 105), none] [] S Q := by
  refine z_go (Gr := Gr) (zc := zc n w) (K := 168) oV_Mo_look 2 (pc' := 120) (L' := [some (.ref 105), none]) (st' := [.int (S.1 73 65)]) rfl ?_
  exact z_ret (v := (some (.int (S.1 73 65)))) (oV_Mo_look.1 (120, .ireturn) (ip_lk_mem rfl)) k0
set_option maxRecDepth 100000 in
theorem b_Mo_look_121 {l : Launch} {Gr : zG} {n w : Nat} {d : Nat} {S : zS} {Q : Option Value → zS → Prop}   (k0 : Q (some (.int (S.1 73 75))) S) : zW l Gr (zc n w) 168 M_Mo_look (d + 1) 121 [some (.ref 105), none] [] S Q := by
  refine z_go (Gr := Gr) (zc := zc n w) (K := 168) oV_Mo_look 2 (pc' := 125) (L' := [some (.ref 105), none]) (st' := [.int (S.1 73 75)]) rfl ?_
  exact z_ret (v := (some (.int (S.1 73 75)))) (oV_Mo_look.1 (125, .ireturn) (ip_lk_mem rfl)) k0
set_option maxRecDepth 100000 in
theorem b_Mo_look_126 {l : Launch} {Gr : zG} {n w : Nat} {d : Nat} {S : zS} {Q : Option Value → zS → Prop}   (k0 : Q (some (.int (S.1 73 69))) S) : zW l Gr (zc n w) 168 M_Mo_look (d + 1) 126 [some (.ref 105), none] [] S Q := by
  refine z_go (Gr := Gr) (zc := zc n w) (K := 168) oV_Mo_look 2 (pc' := 130) (L' := [some (.ref 105), none]) (st' := [.int (S.1 73 69)]) rfl ?_
  exact z_ret (v := (some (.int (S.1 73 69)))) (oV_Mo_look.1 (130, .ireturn) (ip_lk_mem rfl)) k0
set_option maxRecDepth 100000 in
theorem b_Mo_look_131 {l : Launch} {Gr : zG} {n w : Nat} {d : Nat} {S : zS} {Q : Option Value → zS → Prop}   (k0 : Q (some (.int (((S.1 73 65) * ((nI n) - 1)) + ((S.1 73 67) * ((3 * (nI n)) - 1))))) S) : zW l Gr (zc n w) 168 M_Mo_look (d + 1) 131 [some (.ref 105), none] [] S Q := by
  refine z_go (Gr := Gr) (zc := zc n w) (K := 168) oV_Mo_look 17 (pc' := 156) (L' := [some (.ref 105), none]) (st' := [.int (((S.1 73 65) * ((nI n) - 1)) + ((S.1 73 67) * ((3 * (nI n)) - 1)))]) rfl ?_
  exact z_ret (v := (some (.int (((S.1 73 65) * ((nI n) - 1)) + ((S.1 73 67) * ((3 * (nI n)) - 1)))))) (oV_Mo_look.1 (156, .ireturn) (ip_lk_mem rfl)) k0
set_option maxRecDepth 100000 in
theorem b_Mo_look_157 {l : Launch} {Gr : zG} {n w : Nat} {d : Nat} {S : zS} {Q : Option Value → zS → Prop}   (k0 : Q (some (.int (S.1 73 70))) S) : zW l Gr (zc n w) 168 M_Mo_look (d + 1) 157 [some (.ref 105), none] [] S Q := by
  refine z_go (Gr := Gr) (zc := zc n w) (K := 168) oV_Mo_look 2 (pc' := 161) (L' := [some (.ref 105), none]) (st' := [.int (S.1 73 70)]) rfl ?_
  exact z_ret (v := (some (.int (S.1 73 70)))) (oV_Mo_look.1 (161, .ireturn) (ip_lk_mem rfl)) k0
set_option maxRecDepth 100000 in
theorem b_Mo_look_162 {l : Launch} {Gr : zG} {n w : Nat} {d : Nat} {S : zS} {Q : Option Value → zS → Prop}   (k0 : Q (some (.int (S.1 73 139))) S) : zW l Gr (zc n w) 168 M_Mo_look (d + 1) 162 [some (.ref 105), none] [] S Q := by
  refine z_go (Gr := Gr) (zc := zc n w) (K := 168) oV_Mo_look 2 (pc' := 166) (L' := [some (.ref 105), none]) (st' := [.int (S.1 73 139)]) rfl ?_
  exact z_ret (v := (some (.int (S.1 73 139)))) (oV_Mo_look.1 (166, .ireturn) (ip_lk_mem rfl)) k0
set_option maxRecDepth 100000 in
theorem b_Mo_look_167 {l : Launch} {Gr : zG} {n w : Nat} {d : Nat} {S : zS} {Q : Option Value → zS → Prop}   (k0 : Q (some (.int (S.1 73 140))) S) : zW l Gr (zc n w) 168 M_Mo_look (d + 1) 167 [some (.ref 105), none] [] S Q := by
  refine z_go (Gr := Gr) (zc := zc n w) (K := 168) oV_Mo_look 2 (pc' := 171) (L' := [some (.ref 105), none]) (st' := [.int (S.1 73 140)]) rfl ?_
  exact z_ret (v := (some (.int (S.1 73 140)))) (oV_Mo_look.1 (171, .ireturn) (ip_lk_mem rfl)) k0
set_option maxRecDepth 100000 in
theorem b_Mo_look_172 {l : Launch} {Gr : zG} {n w : Nat} {d : Nat} {S : zS} {Q : Option Value → zS → Prop} {R : Int32 → zS → Prop} (hg : ip_gk (lg_tbl, vwCl, Gr))   (k0 : zMi l Gr (zc n w) 168 M_Mo_done d [.ref 105] S R) (k1 : ∀ v S', R v S' → zW l Gr (zc n w) 168 M_Mo_look (d + 1) 176 [none, none] [.int v] S' Q) : zW l Gr (zc n w) 168 M_Mo_look (d + 1) 172 [some (.ref 105), none] [] S Q := by
  refine z_go (Gr := Gr) (zc := zc n w) (K := 168) oV_Mo_look 1 (pc' := 173) (L' := [some (.ref 105), none]) (st' := [.ref 105]) rfl ?_
  exact z_callV (Gr := Gr) hg.2.2.1 fT oM_Mo_done (oV_Mo_look.1 (173, .invokevirtual 854) (ip_lk_mem rfl)) ⟨tt_10 _ (List.mem_of_getElem? (i := 189) rfl) rfl, tt_10 _ (List.mem_of_getElem? (i := 191) rfl) rfl, fS_Mo_done⟩ (c := 73) (ci := 12) (As := []) rfl rfl rfl (by decide) rfl (Nat.le_of_ble_eq_true rfl) k0 (fun v S' q => by obtain ⟨x, rfl, q⟩ := q; exact (z_forget (k1 _ _ q) trivial))
set_option maxRecDepth 100000 in
theorem b_Mo_look_177 {l : Launch} {Gr : zG} {n w : Nat} {d : Nat} {S : zS} {Q : Option Value → zS → Prop}   (k0 : ¬ (S.1 73 83) = 0 → zW l Gr (zc n w) 168 M_Mo_look (d + 1) 188 [some (.ref 105), none] [] S Q) (k1 : (S.1 73 83) = 0 → zW l Gr (zc n w) 168 M_Mo_look (d + 1) 184 [none, none] [] S Q) : zW l Gr (zc n w) 168 M_Mo_look (d + 1) 177 [some (.ref 105), none] [] S Q := by
  refine z_go (Gr := Gr) (zc := zc n w) (K := 168) oV_Mo_look 2 (pc' := 181) (L' := [some (.ref 105), none]) (st' := [.int (S.1 73 83)]) rfl ?_
  exact z_ifne (Gr := Gr) (tgt := 188) (oV_Mo_look.1 (181, .ifCond .ne 7) (ip_lk_mem rfl)) (by decide) (fun q => (k0 q)) (fun q => (z_forget (k1 q) trivial))
set_option maxRecDepth 100000 in
theorem b_Mo_look_201 {l : Launch} {Gr : zG} {n w : Nat} {d : Nat} {S : zS} {Q : Option Value → zS → Prop}   (k0 : Q (some (.int (S.1 73 121))) S) : zW l Gr (zc n w) 168 M_Mo_look (d + 1) 201 [some (.ref 105), none] [] S Q := by
  refine z_go (Gr := Gr) (zc := zc n w) (K := 168) oV_Mo_look 2 (pc' := 205) (L' := [some (.ref 105), none]) (st' := [.int (S.1 73 121)]) rfl ?_
  exact z_ret (v := (some (.int (S.1 73 121)))) (oV_Mo_look.1 (205, .ireturn) (ip_lk_mem rfl)) k0
set_option maxRecDepth 100000 in
theorem b_Mo_look_206 {l : Launch} {Gr : zG} {n w : Nat} {d : Nat} {S : zS} {Q : Option Value → zS → Prop}   (k0 : Q (some (.int (S.1 73 120))) S) : zW l Gr (zc n w) 168 M_Mo_look (d + 1) 206 [some (.ref 105), none] [] S Q := by
  refine z_go (Gr := Gr) (zc := zc n w) (K := 168) oV_Mo_look 2 (pc' := 210) (L' := [some (.ref 105), none]) (st' := [.int (S.1 73 120)]) rfl ?_
  exact z_ret (v := (some (.int (S.1 73 120)))) (oV_Mo_look.1 (210, .ireturn) (ip_lk_mem rfl)) k0
set_option maxRecDepth 100000 in
theorem b_Mo_look_10 {l : Launch} {Gr : zG} {n w : Nat} {d : Nat} {S : zS} {Q : Option Value → zS → Prop} {x1 : Int32}  (k0 : ¬ (S.1 73 83) = 0 → zW l Gr (zc n w) 168 M_Mo_look (d + 1) 19 [some (.ref 105), some (.int x1)] [] S Q) (k1 : (S.1 73 83) = 0 → zW l Gr (zc n w) 168 M_Mo_look (d + 1) 17 [none, none] [] S Q) : zW l Gr (zc n w) 168 M_Mo_look (d + 1) 10 [some (.ref 105), some (.int x1)] [] S Q := by
  refine z_go (Gr := Gr) (zc := zc n w) (K := 168) oV_Mo_look 2 (pc' := 14) (L' := [some (.ref 105), some (.int x1)]) (st' := [.int (S.1 73 83)]) rfl ?_
  exact z_ifne (Gr := Gr) (tgt := 19) (oV_Mo_look.1 (14, .ifCond .ne 5) (ip_lk_mem rfl)) (by decide) (fun q => (k0 q)) (fun q => (z_forget (k1 q) trivial))
set_option maxRecDepth 100000 in
theorem b_Mo_look_176 {l : Launch} {Gr : zG} {n w : Nat} {d : Nat} {S : zS} {Q : Option Value → zS → Prop} {s0 : Int32}  (k0 : Q (some (.int s0)) S) : zW l Gr (zc n w) 168 M_Mo_look (d + 1) 176 [none, none] [.int s0] S Q := by
  exact z_ret (v := (some (.int s0))) (oV_Mo_look.1 (176, .ireturn) (ip_lk_mem rfl)) k0
set_option maxRecDepth 100000 in
theorem b_Mo_look_188 {l : Launch} {Gr : zG} {n w : Nat} {d : Nat} {S : zS} {Q : Option Value → zS → Prop}   (k0 : (S.1 73 124) = 0 → zW l Gr (zc n w) 168 M_Mo_look (d + 1) 199 [none, none] [] S Q) (k1 : ¬ (S.1 73 124) = 0 → zW l Gr (zc n w) 168 M_Mo_look (d + 1) 195 [none, none] [] S Q) : zW l Gr (zc n w) 168 M_Mo_look (d + 1) 188 [some (.ref 105), none] [] S Q := by
  refine z_go (Gr := Gr) (zc := zc n w) (K := 168) oV_Mo_look 2 (pc' := 192) (L' := [some (.ref 105), none]) (st' := [.int (S.1 73 124)]) rfl ?_
  exact z_ifeq (Gr := Gr) (tgt := 199) (oV_Mo_look.1 (192, .ifCond .eq 7) (ip_lk_mem rfl)) (by decide) (fun q => (z_forget (k0 q) trivial)) (fun q => (z_forget (k1 q) trivial))
set_option maxRecDepth 100000 in
theorem b_Mo_look_184 {l : Launch} {Gr : zG} {n w : Nat} {d : Nat} {S : zS} {Q : Option Value → zS → Prop}   (k0 : zW l Gr (zc n w) 168 M_Mo_look (d + 1) 200 [none, none] [.int 0] S Q) : zW l Gr (zc n w) 168 M_Mo_look (d + 1) 184 [none, none] [] S Q := by
  refine z_go (Gr := Gr) (zc := zc n w) (K := 168) oV_Mo_look 2 (pc' := 200) (L' := [none, none]) (st' := [.int 0]) rfl ?_
  exact k0
set_option maxRecDepth 100000 in
theorem b_Mo_look_17 {l : Launch} {Gr : zG} {n w : Nat} {d : Nat} {S : zS} {Q : Option Value → zS → Prop}   (k0 : Q (some (.int (-1))) S) : zW l Gr (zc n w) 168 M_Mo_look (d + 1) 17 [none, none] [] S Q := by
  refine z_go (Gr := Gr) (zc := zc n w) (K := 168) oV_Mo_look 1 (pc' := 18) (L' := [none, none]) (st' := [.int (-1)]) rfl ?_
  exact z_ret (v := (some (.int (-1)))) (oV_Mo_look.1 (18, .ireturn) (ip_lk_mem rfl)) k0
set_option maxRecDepth 100000 in
theorem b_Mo_look_199 {l : Launch} {Gr : zG} {n w : Nat} {d : Nat} {S : zS} {Q : Option Value → zS → Prop}   (k0 : zW l Gr (zc n w) 168 M_Mo_look (d + 1) 200 [none, none] [.int 1] S Q) : zW l Gr (zc n w) 168 M_Mo_look (d + 1) 199 [none, none] [] S Q := by
  refine z_go (Gr := Gr) (zc := zc n w) (K := 168) oV_Mo_look 1 (pc' := 200) (L' := [none, none]) (st' := [.int 1]) rfl ?_
  exact k0
set_option maxRecDepth 100000 in
theorem b_Mo_look_195 {l : Launch} {Gr : zG} {n w : Nat} {d : Nat} {S : zS} {Q : Option Value → zS → Prop}   (k0 : zW l Gr (zc n w) 168 M_Mo_look (d + 1) 200 [none, none] [.int 2] S Q) : zW l Gr (zc n w) 168 M_Mo_look (d + 1) 195 [none, none] [] S Q := by
  refine z_go (Gr := Gr) (zc := zc n w) (K := 168) oV_Mo_look 2 (pc' := 200) (L' := [none, none]) (st' := [.int 2]) rfl ?_
  exact k0
set_option maxRecDepth 100000 in
theorem b_Mo_look_200 {l : Launch} {Gr : zG} {n w : Nat} {d : Nat} {S : zS} {Q : Option Value → zS → Prop} {s0 : Int32}  (k0 : Q (some (.int s0)) S) : zW l Gr (zc n w) 168 M_Mo_look (d + 1) 200 [none, none] [.int s0] S Q := by
  exact z_ret (v := (some (.int s0))) (oV_Mo_look.1 (200, .ireturn) (ip_lk_mem rfl)) k0
theorem e_Mo_look {l : Launch} {Gr : zG} {n w : Nat} {d : Nat} {S : zS} {R : Int32 → zS → Prop} {x1 : Int32} (k : zW l Gr (zc n w) 168 M_Mo_look (d + 1) 0 [some (.ref 105), some (.int x1)] [] S (fun v S' => ∃ x, v = some (.int x) ∧ R x S')) : zMi l Gr (zc n w) 168 M_Mo_look (d + 1) [.ref 105, .int x1] S R := z_mi oM_Mo_look rfl (Nat.le_of_ble_eq_true rfl) k
set_option maxRecDepth 100000 in
theorem b_Mo_literal_0 {l : Launch} {Gr : zG} {n w : Nat} {d : Nat} {S : zS} {Q : Option Value → zS → Prop} {x1 : Int32} {x2 : Int32}  (k0 : (S.1 73 83) = 0 → zW l Gr (zc n w) 168 M_Mo_literal d 48 [none, none, none] [] S Q) (k1 : ¬ (S.1 73 83) = 0 → zW l Gr (zc n w) 168 M_Mo_literal d 7 [some (.ref 105), some (.int x1), some (.int x2)] [] S Q) : zW l Gr (zc n w) 168 M_Mo_literal d 0 [some (.ref 105), some (.int x1), some (.int x2)] [] S Q := by
  refine z_go (Gr := Gr) (zc := zc n w) (K := 168) oV_Mo_literal 2 (pc' := 4) (L' := [some (.ref 105), some (.int x1), some (.int x2)]) (st' := [.int (S.1 73 83)]) rfl ?_
  exact z_ifeq (Gr := Gr) (tgt := 48) (oV_Mo_literal.1 (4, .ifCond .eq 44) (ip_lk_mem rfl)) (by decide) (fun q => (z_forget (k0 q) trivial)) (fun q => (k1 q))
set_option maxRecDepth 100000 in
theorem b_Mo_literal_48 {l : Launch} {Gr : zG} {n w : Nat} {d : Nat} {S : zS} {Q : Option Value → zS → Prop}   (k0 : zW l Gr (zc n w) 168 M_Mo_literal d 64 [none, none, none] [.int (-3)] S Q) : zW l Gr (zc n w) 168 M_Mo_literal d 48 [none, none, none] [] S Q := by
  refine z_go (Gr := Gr) (zc := zc n w) (K := 168) oV_Mo_literal 2 (pc' := 64) (L' := [none, none, none]) (st' := [.int (-3)]) rfl ?_
  exact k0
set_option maxRecDepth 100000 in
theorem b_Mo_literal_7 {l : Launch} {Gr : zG} {n w : Nat} {d : Nat} {S : zS} {Q : Option Value → zS → Prop} {x1 : Int32} {x2 : Int32}  (k0 : x1 < 0 → zW l Gr (zc n w) 168 M_Mo_literal d 48 [none, none, none] [] S Q) (k1 : ¬ x1 < 0 → zW l Gr (zc n w) 168 M_Mo_literal d 11 [some (.ref 105), some (.int x1), some (.int x2)] [] S Q) : zW l Gr (zc n w) 168 M_Mo_literal d 7 [some (.ref 105), some (.int x1), some (.int x2)] [] S Q := by
  refine z_go (Gr := Gr) (zc := zc n w) (K := 168) oV_Mo_literal 1 (pc' := 8) (L' := [some (.ref 105), some (.int x1), some (.int x2)]) (st' := [.int x1]) rfl ?_
  exact z_iflt (Gr := Gr) (tgt := 48) (oV_Mo_literal.1 (8, .ifCond .lt 40) (ip_lk_mem rfl)) (by decide) (fun q => (z_forget (k0 q) trivial)) (fun q => (k1 q))
set_option maxRecDepth 100000 in
theorem b_Mo_literal_64 {l : Launch} {Gr : zG} {n w : Nat} {d : Nat} {S : zS} {Q : Option Value → zS → Prop} {s0 : Int32}  (k0 : Q (some (.int s0)) S) : zW l Gr (zc n w) 168 M_Mo_literal d 64 [none, none, none] [.int s0] S Q := by
  exact z_ret (v := (some (.int s0))) (oV_Mo_literal.1 (64, .ireturn) (ip_lk_mem rfl)) k0
set_option maxRecDepth 100000 in
theorem b_Mo_literal_11 {l : Launch} {Gr : zG} {n w : Nat} {d : Nat} {S : zS} {Q : Option Value → zS → Prop} {x1 : Int32} {x2 : Int32}  (k0 : (S.1 73 69) ≤ x1 → zW l Gr (zc n w) 168 M_Mo_literal d 48 [none, none, none] [] S Q) (k1 : ¬ (S.1 73 69) ≤ x1 → zW l Gr (zc n w) 168 M_Mo_literal d 19 [some (.ref 105), some (.int x1), some (.int x2)] [] S Q) : zW l Gr (zc n w) 168 M_Mo_literal d 11 [some (.ref 105), some (.int x1), some (.int x2)] [] S Q := by
  refine z_go (Gr := Gr) (zc := zc n w) (K := 168) oV_Mo_literal 3 (pc' := 16) (L' := [some (.ref 105), some (.int x1), some (.int x2)]) (st' := [.int (S.1 73 69), .int x1]) rfl ?_
  exact z_icge (Gr := Gr) (tgt := 48) (oV_Mo_literal.1 (16, .if_icmp .ge 32) (ip_lk_mem rfl)) (by decide) (fun q => (z_forget (k0 q) trivial)) (fun q => (k1 q))
set_option maxRecDepth 100000 in
theorem b_Mo_literal_19 {l : Launch} {Gr : zG} {n w : Nat} {d : Nat} {S : zS} {Q : Option Value → zS → Prop} {x1 : Int32} {x2 : Int32}  (k0 : x2 < 0 → zW l Gr (zc n w) 168 M_Mo_literal d 48 [none, none, none] [] S Q) (k1 : ¬ x2 < 0 → zW l Gr (zc n w) 168 M_Mo_literal d 23 [some (.ref 105), some (.int x1), some (.int x2)] [] S Q) : zW l Gr (zc n w) 168 M_Mo_literal d 19 [some (.ref 105), some (.int x1), some (.int x2)] [] S Q := by
  refine z_go (Gr := Gr) (zc := zc n w) (K := 168) oV_Mo_literal 1 (pc' := 20) (L' := [some (.ref 105), some (.int x1), some (.int x2)]) (st' := [.int x2]) rfl ?_
  exact z_iflt (Gr := Gr) (tgt := 48) (oV_Mo_literal.1 (20, .ifCond .lt 28) (ip_lk_mem rfl)) (by decide) (fun q => (z_forget (k0 q) trivial)) (fun q => (k1 q))
set_option maxRecDepth 100000 in
theorem b_Mo_literal_23 {l : Launch} {Gr : zG} {n w : Nat} {d : Nat} {S : zS} {Q : Option Value → zS → Prop} {x1 : Int32} {x2 : Int32}  (k0 : x1 < 0 → zW l Gr (zc n w) 168 M_Mo_literal d 43 [some (.ref 105), some (.int x1), some (.int x2)] [.ref 152, .int x2] S Q) (k1 : ¬ x1 < 0 → zW l Gr (zc n w) 168 M_Mo_literal d 32 [some (.ref 105), some (.int x1), some (.int x2)] [.ref 152, .int x2] S Q) : zW l Gr (zc n w) 168 M_Mo_literal d 23 [some (.ref 105), some (.int x1), some (.int x2)] [] S Q := by
  refine z_go (Gr := Gr) (zc := zc n w) (K := 168) oV_Mo_literal 4 (pc' := 29) (L' := [some (.ref 105), some (.int x1), some (.int x2)]) (st' := [.int x1, .ref 152, .int x2]) rfl ?_
  exact z_iflt (Gr := Gr) (tgt := 43) (oV_Mo_literal.1 (29, .ifCond .lt 14) (ip_lk_mem rfl)) (by decide) (fun q => (k0 q)) (fun q => (k1 q))
set_option maxRecDepth 100000 in
theorem b_Mo_literal_43 {l : Launch} {Gr : zG} {n w : Nat} {d : Nat} {S : zS} {Q : Option Value → zS → Prop} {x1 : Int32} {x2 : Int32} {s1 : Int32}  (k0 : zW l Gr (zc n w) 168 M_Mo_literal d 44 [some (.ref 105), some (.int x1), some (.int x2)] [.int 0, .ref 152, .int s1] S Q) : zW l Gr (zc n w) 168 M_Mo_literal d 43 [some (.ref 105), some (.int x1), some (.int x2)] [.ref 152, .int s1] S Q := by
  refine z_go (Gr := Gr) (zc := zc n w) (K := 168) oV_Mo_literal 1 (pc' := 44) (L' := [some (.ref 105), some (.int x1), some (.int x2)]) (st' := [.int 0, .ref 152, .int s1]) rfl ?_
  exact k0
set_option maxRecDepth 100000 in
theorem b_Mo_literal_32 {l : Launch} {Gr : zG} {n w : Nat} {d : Nat} {S : zS} {Q : Option Value → zS → Prop} {x1 : Int32} {x2 : Int32} {s1 : Int32}  (k0 : 500 ≤ x1 → zW l Gr (zc n w) 168 M_Mo_literal d 43 [some (.ref 105), some (.int x1), some (.int x2)] [.ref 152, .int s1] S Q) (k1 : ¬ 500 ≤ x1 → zW l Gr (zc n w) 168 M_Mo_literal d 39 [some (.ref 105), some (.int x1), some (.int x2)] [.ref 152, .int s1] S Q) : zW l Gr (zc n w) 168 M_Mo_literal d 32 [some (.ref 105), some (.int x1), some (.int x2)] [.ref 152, .int s1] S Q := by
  refine z_go (Gr := Gr) (zc := zc n w) (K := 168) oV_Mo_literal 2 (pc' := 36) (L' := [some (.ref 105), some (.int x1), some (.int x2)]) (st' := [.int 500, .int x1, .ref 152, .int s1]) rfl ?_
  exact z_icge (Gr := Gr) (tgt := 43) (oV_Mo_literal.1 (36, .if_icmp .ge 7) (ip_lk_mem rfl)) (by decide) (fun q => (k0 q)) (fun q => (k1 q))
set_option maxRecDepth 100000 in
theorem b_Mo_literal_44 {l : Launch} {Gr : zG} {n w : Nat} {d : Nat} {S : zS} {Q : Option Value → zS → Prop} {x1 : Int32} {x2 : Int32} {s0 : Int32} {s2 : Int32} (g0 : vp_in s0 500) (k0 : s2 < (S.1 120 ((s0 : Int32).toNatClampNeg)) → zW l Gr (zc n w) 168 M_Mo_literal d 53 [some (.ref 105), some (.int x1), some (.int x2)] [] S Q) (k1 : ¬ s2 < (S.1 120 ((s0 : Int32).toNatClampNeg)) → zW l Gr (zc n w) 168 M_Mo_literal d 48 [none, none, none] [] S Q) : zW l Gr (zc n w) 168 M_Mo_literal d 44 [some (.ref 105), some (.int x1), some (.int x2)] [.int s0, .ref 152, .int s2] S Q := by
  refine z_iald (Gr := Gr) (c := 120) (oV_Mo_literal.1 (44, .iaload) (ip_lk_mem rfl)) (by decide) rfl g0 ?_
  exact z_iclt (Gr := Gr) (tgt := 53) (oV_Mo_literal.1 (45, .if_icmp .lt 8) (ip_lk_mem rfl)) (by decide) (fun q => (k0 q)) (fun q => (z_forget (k1 q) trivial))
set_option maxRecDepth 100000 in
theorem b_Mo_literal_39 {l : Launch} {Gr : zG} {n w : Nat} {d : Nat} {S : zS} {Q : Option Value → zS → Prop} {x1 : Int32} {x2 : Int32} {s1 : Int32}  (k0 : zW l Gr (zc n w) 168 M_Mo_literal d 44 [some (.ref 105), some (.int x1), some (.int x2)] [.int x1, .ref 152, .int s1] S Q) : zW l Gr (zc n w) 168 M_Mo_literal d 39 [some (.ref 105), some (.int x1), some (.int x2)] [.ref 152, .int s1] S Q := by
  refine z_go (Gr := Gr) (zc := zc n w) (K := 168) oV_Mo_literal 2 (pc' := 44) (L' := [some (.ref 105), some (.int x1), some (.int x2)]) (st' := [.int x1, .ref 152, .int s1]) rfl ?_
  exact k0
set_option maxRecDepth 100000 in
theorem b_Mo_literal_53 {l : Launch} {Gr : zG} {n w : Nat} {d : Nat} {S : zS} {Q : Option Value → zS → Prop} {x1 : Int32} {x2 : Int32} (g0 : vp_in ((32 * x1) + x2) 16000) (k0 : zW l Gr (zc n w) 168 M_Mo_literal d 64 [none, none, none] [.int (S.1 121 ((((32 * x1) + x2) : Int32).toNatClampNeg))] S Q) : zW l Gr (zc n w) 168 M_Mo_literal d 53 [some (.ref 105), some (.int x1), some (.int x2)] [] S Q := by
  refine z_go (Gr := Gr) (zc := zc n w) (K := 168) oV_Mo_literal 7 (pc' := 63) (L' := [some (.ref 105), some (.int x1), some (.int x2)]) (st' := [.int ((32 * x1) + x2), .ref 153]) rfl ?_
  refine z_iald (Gr := Gr) (c := 121) (oV_Mo_literal.1 (63, .iaload) (ip_lk_mem rfl)) (by decide) rfl g0 ?_
  exact (z_forget k0 trivial)
theorem e_Mo_literal {l : Launch} {Gr : zG} {n w : Nat} {d : Nat} {S : zS} {R : Int32 → zS → Prop} {x1 : Int32} {x2 : Int32} (k : zW l Gr (zc n w) 168 M_Mo_literal d 0 [some (.ref 105), some (.int x1), some (.int x2)] [] S (fun v S' => ∃ x, v = some (.int x) ∧ R x S')) : zMi l Gr (zc n w) 168 M_Mo_literal d [.ref 105, .int x1, .int x2] S R := z_mi oM_Mo_literal rfl (Nat.le_of_ble_eq_true rfl) k
set_option maxRecDepth 100000 in
theorem b_Mo_input_0 {l : Launch} {Gr : zG} {n w : Nat} {d : Nat} {S : zS} {Q : Option Value → zS → Prop} {x1 : Int32} {x2 : Int32}  (k0 : (S.1 73 83) = 0 → zW l Gr (zc n w) 168 M_Mo_input d 28 [none, none, none] [] S Q) (k1 : ¬ (S.1 73 83) = 0 → zW l Gr (zc n w) 168 M_Mo_input d 7 [some (.ref 105), some (.int x1), some (.int x2)] [] S Q) : zW l Gr (zc n w) 168 M_Mo_input d 0 [some (.ref 105), some (.int x1), some (.int x2)] [] S Q := by
  refine z_go (Gr := Gr) (zc := zc n w) (K := 168) oV_Mo_input 2 (pc' := 4) (L' := [some (.ref 105), some (.int x1), some (.int x2)]) (st' := [.int (S.1 73 83)]) rfl ?_
  exact z_ifeq (Gr := Gr) (tgt := 28) (oV_Mo_input.1 (4, .ifCond .eq 24) (ip_lk_mem rfl)) (by decide) (fun q => (z_forget (k0 q) trivial)) (fun q => (k1 q))
set_option maxRecDepth 100000 in
theorem b_Mo_input_28 {l : Launch} {Gr : zG} {n w : Nat} {d : Nat} {S : zS} {Q : Option Value → zS → Prop}   (k0 : Q (some (.long (-1))) S) : zW l Gr (zc n w) 168 M_Mo_input d 28 [none, none, none] [] S Q := by
  refine z_go (Gr := Gr) (zc := zc n w) (K := 168) oV_Mo_input 1 (pc' := 31) (L' := [none, none, none]) (st' := [.long (-1)]) rfl ?_
  exact z_ret (v := (some (.long (-1)))) (oV_Mo_input.1 (31, .lreturn) (ip_lk_mem rfl)) k0
set_option maxRecDepth 100000 in
theorem b_Mo_input_7 {l : Launch} {Gr : zG} {n w : Nat} {d : Nat} {S : zS} {Q : Option Value → zS → Prop} {x1 : Int32} {x2 : Int32}  (k0 : x1 < 0 → zW l Gr (zc n w) 168 M_Mo_input d 28 [none, none, none] [] S Q) (k1 : ¬ x1 < 0 → zW l Gr (zc n w) 168 M_Mo_input d 11 [some (.ref 105), some (.int x1), some (.int x2)] [] S Q) : zW l Gr (zc n w) 168 M_Mo_input d 7 [some (.ref 105), some (.int x1), some (.int x2)] [] S Q := by
  refine z_go (Gr := Gr) (zc := zc n w) (K := 168) oV_Mo_input 1 (pc' := 8) (L' := [some (.ref 105), some (.int x1), some (.int x2)]) (st' := [.int x1]) rfl ?_
  exact z_iflt (Gr := Gr) (tgt := 28) (oV_Mo_input.1 (8, .ifCond .lt 20) (ip_lk_mem rfl)) (by decide) (fun q => (z_forget (k0 q) trivial)) (fun q => (k1 q))
set_option maxRecDepth 100000 in
theorem b_Mo_input_11 {l : Launch} {Gr : zG} {n w : Nat} {d : Nat} {S : zS} {Q : Option Value → zS → Prop} {x1 : Int32} {x2 : Int32}  (k0 : (S.1 73 75) ≤ x1 → zW l Gr (zc n w) 168 M_Mo_input d 28 [none, none, none] [] S Q) (k1 : ¬ (S.1 73 75) ≤ x1 → zW l Gr (zc n w) 168 M_Mo_input d 19 [some (.ref 105), some (.int x1), some (.int x2)] [] S Q) : zW l Gr (zc n w) 168 M_Mo_input d 11 [some (.ref 105), some (.int x1), some (.int x2)] [] S Q := by
  refine z_go (Gr := Gr) (zc := zc n w) (K := 168) oV_Mo_input 3 (pc' := 16) (L' := [some (.ref 105), some (.int x1), some (.int x2)]) (st' := [.int (S.1 73 75), .int x1]) rfl ?_
  exact z_icge (Gr := Gr) (tgt := 28) (oV_Mo_input.1 (16, .if_icmp .ge 12) (ip_lk_mem rfl)) (by decide) (fun q => (z_forget (k0 q) trivial)) (fun q => (k1 q))
set_option maxRecDepth 100000 in
theorem b_Mo_input_19 {l : Launch} {Gr : zG} {n w : Nat} {d : Nat} {S : zS} {Q : Option Value → zS → Prop} {x1 : Int32} {x2 : Int32}  (k0 : x2 < 0 → zW l Gr (zc n w) 168 M_Mo_input d 28 [none, none, none] [] S Q) (k1 : ¬ x2 < 0 → zW l Gr (zc n w) 168 M_Mo_input d 23 [some (.ref 105), some (.int x1), some (.int x2)] [] S Q) : zW l Gr (zc n w) 168 M_Mo_input d 19 [some (.ref 105), some (.int x1), some (.int x2)] [] S Q := by
  refine z_go (Gr := Gr) (zc := zc n w) (K := 168) oV_Mo_input 1 (pc' := 20) (L' := [some (.ref 105), some (.int x1), some (.int x2)]) (st' := [.int x2]) rfl ?_
  exact z_iflt (Gr := Gr) (tgt := 28) (oV_Mo_input.1 (20, .ifCond .lt 8) (ip_lk_mem rfl)) (by decide) (fun q => (z_forget (k0 q) trivial)) (fun q => (k1 q))
set_option maxRecDepth 100000 in
theorem b_Mo_input_23 {l : Launch} {Gr : zG} {n w : Nat} {d : Nat} {S : zS} {Q : Option Value → zS → Prop} {x1 : Int32} {x2 : Int32}  (k0 : x2 ≤ 2 → zW l Gr (zc n w) 168 M_Mo_input d 32 [some (.ref 105), some (.int x1), some (.int x2)] [] S Q) (k1 : ¬ x2 ≤ 2 → zW l Gr (zc n w) 168 M_Mo_input d 28 [none, none, none] [] S Q) : zW l Gr (zc n w) 168 M_Mo_input d 23 [some (.ref 105), some (.int x1), some (.int x2)] [] S Q := by
  refine z_go (Gr := Gr) (zc := zc n w) (K := 168) oV_Mo_input 2 (pc' := 25) (L' := [some (.ref 105), some (.int x1), some (.int x2)]) (st' := [.int 2, .int x2]) rfl ?_
  exact z_icle (Gr := Gr) (tgt := 32) (oV_Mo_input.1 (25, .if_icmp .le 7) (ip_lk_mem rfl)) (by decide) (fun q => (k0 q)) (fun q => (z_forget (k1 q) trivial))
set_option maxRecDepth 100000 in
theorem b_Mo_input_32 {l : Launch} {Gr : zG} {n w : Nat} {d : Nat} {S : zS} {Q : Option Value → zS → Prop} {x1 : Int32} {x2 : Int32}  (k0 : ¬ x2 = 0 → zW l Gr (zc n w) 168 M_Mo_input d 46 [some (.ref 105), some (.int x1), some (.int x2)] [] S Q) (k1 : x2 = 0 → zW l Gr (zc n w) 168 M_Mo_input d 36 [some (.ref 105), some (.int x1), none] [] S Q) : zW l Gr (zc n w) 168 M_Mo_input d 32 [some (.ref 105), some (.int x1), some (.int x2)] [] S Q := by
  refine z_go (Gr := Gr) (zc := zc n w) (K := 168) oV_Mo_input 1 (pc' := 33) (L' := [some (.ref 105), some (.int x1), some (.int x2)]) (st' := [.int x2]) rfl ?_
  exact z_ifne (Gr := Gr) (tgt := 46) (oV_Mo_input.1 (33, .ifCond .ne 13) (ip_lk_mem rfl)) (by decide) (fun q => (k0 q)) (fun q => (z_forget (k1 q) (And.intro rfl (And.intro rfl trivial))))
set_option maxRecDepth 100000 in
theorem b_Mo_input_46 {l : Launch} {Gr : zG} {n w : Nat} {d : Nat} {S : zS} {Q : Option Value → zS → Prop} {x1 : Int32} {x2 : Int32}  (k0 : ¬ x2 = 1 → zW l Gr (zc n w) 168 M_Mo_input d 61 [some (.ref 105), some (.int x1), none] [] S Q) (k1 : x2 = 1 → zW l Gr (zc n w) 168 M_Mo_input d 51 [some (.ref 105), some (.int x1), none] [] S Q) : zW l Gr (zc n w) 168 M_Mo_input d 46 [some (.ref 105), some (.int x1), some (.int x2)] [] S Q := by
  refine z_go (Gr := Gr) (zc := zc n w) (K := 168) oV_Mo_input 2 (pc' := 48) (L' := [some (.ref 105), some (.int x1), some (.int x2)]) (st' := [.int 1, .int x2]) rfl ?_
  exact z_icne (Gr := Gr) (tgt := 61) (oV_Mo_input.1 (48, .if_icmp .ne 13) (ip_lk_mem rfl)) (by decide) (fun q => (z_forget (k0 q) (And.intro rfl (And.intro rfl trivial)))) (fun q => (z_forget (k1 q) (And.intro rfl (And.intro rfl trivial))))
set_option maxRecDepth 100000 in
theorem b_Mo_input_36 {l : Launch} {Gr : zG} {n w : Nat} {d : Nat} {S : zS} {Q : Option Value → zS → Prop} {x1 : Int32} (g0 : vp_in x1 256) (k0 : zW l Gr (zc n w) 168 M_Mo_input d 67 [none, none, none] [.long (((S.1 115 ((x1 : Int32).toNatClampNeg)) : Int32)).toInt64] S Q) : zW l Gr (zc n w) 168 M_Mo_input d 36 [some (.ref 105), some (.int x1), none] [] S Q := by
  refine z_go (Gr := Gr) (zc := zc n w) (K := 168) oV_Mo_input 3 (pc' := 41) (L' := [some (.ref 105), some (.int x1), none]) (st' := [.int x1, .ref 147]) rfl ?_
  refine z_iald (Gr := Gr) (c := 115) (oV_Mo_input.1 (41, .iaload) (ip_lk_mem rfl)) (by decide) rfl g0 ?_
  refine z_go (Gr := Gr) (zc := zc n w) (K := 168) oV_Mo_input 2 (pc' := 67) (L' := [some (.ref 105), some (.int x1), none]) (st' := [.long (((S.1 115 ((x1 : Int32).toNatClampNeg)) : Int32)).toInt64]) rfl ?_
  exact (z_forget k0 trivial)
set_option maxRecDepth 100000 in
theorem b_Mo_input_61 {l : Launch} {Gr : zG} {n w : Nat} {d : Nat} {S : zS} {Q : Option Value → zS → Prop} {x1 : Int32} (g0 : vp_in x1 256) (k0 : zW l Gr (zc n w) 168 M_Mo_input d 67 [none, none, none] [.long (S.2 118 ((x1 : Int32).toNatClampNeg))] S Q) : zW l Gr (zc n w) 168 M_Mo_input d 61 [some (.ref 105), some (.int x1), none] [] S Q := by
  refine z_go (Gr := Gr) (zc := zc n w) (K := 168) oV_Mo_input 3 (pc' := 66) (L' := [some (.ref 105), some (.int x1), none]) (st' := [.int x1, .ref 150]) rfl ?_
  refine z_lald (Gr := Gr) (c := 118) (oV_Mo_input.1 (66, .laload) (ip_lk_mem rfl)) (by decide) rfl g0 ?_
  exact (z_forget k0 trivial)
set_option maxRecDepth 100000 in
theorem b_Mo_input_51 {l : Launch} {Gr : zG} {n w : Nat} {d : Nat} {S : zS} {Q : Option Value → zS → Prop} {x1 : Int32} (g0 : vp_in x1 256) (k0 : zW l Gr (zc n w) 168 M_Mo_input d 67 [none, none, none] [.long (((S.1 116 ((x1 : Int32).toNatClampNeg)) : Int32)).toInt64] S Q) : zW l Gr (zc n w) 168 M_Mo_input d 51 [some (.ref 105), some (.int x1), none] [] S Q := by
  refine z_go (Gr := Gr) (zc := zc n w) (K := 168) oV_Mo_input 3 (pc' := 56) (L' := [some (.ref 105), some (.int x1), none]) (st' := [.int x1, .ref 148]) rfl ?_
  refine z_iald (Gr := Gr) (c := 116) (oV_Mo_input.1 (56, .iaload) (ip_lk_mem rfl)) (by decide) rfl g0 ?_
  refine z_go (Gr := Gr) (zc := zc n w) (K := 168) oV_Mo_input 2 (pc' := 67) (L' := [some (.ref 105), some (.int x1), none]) (st' := [.long (((S.1 116 ((x1 : Int32).toNatClampNeg)) : Int32)).toInt64]) rfl ?_
  exact (z_forget k0 trivial)
set_option maxRecDepth 100000 in
theorem b_Mo_input_67 {l : Launch} {Gr : zG} {n w : Nat} {d : Nat} {S : zS} {Q : Option Value → zS → Prop} {s0 : Int64}  (k0 : Q (some (.long s0)) S) : zW l Gr (zc n w) 168 M_Mo_input d 67 [none, none, none] [.long s0] S Q := by
  exact z_ret (v := (some (.long s0))) (oV_Mo_input.1 (67, .lreturn) (ip_lk_mem rfl)) k0
theorem e_Mo_input {l : Launch} {Gr : zG} {n w : Nat} {d : Nat} {S : zS} {R : Int64 → zS → Prop} {x1 : Int32} {x2 : Int32} (k : zW l Gr (zc n w) 168 M_Mo_input d 0 [some (.ref 105), some (.int x1), some (.int x2)] [] S (fun v S' => ∃ x, v = some (.long x) ∧ R x S')) : zMl l Gr (zc n w) 168 M_Mo_input d [.ref 105, .int x1, .int x2] S R := z_ml oM_Mo_input rfl (Nat.le_of_ble_eq_true rfl) k
set_option maxRecDepth 100000 in
theorem b_Mo_give_0 {l : Launch} {Gr : zG} {n w : Nat} {d : Nat} {S : zS} {Q : Option Value → zS → Prop} {x1 : Int32} {x2 : Int32}  (k0 : (S.1 73 83) = 0 → zW l Gr (zc n w) 168 M_Mo_give d 19 [none, none, none] [] S Q) (k1 : ¬ (S.1 73 83) = 0 → zW l Gr (zc n w) 168 M_Mo_give d 7 [some (.ref 105), some (.int x1), some (.int x2)] [] S Q) : zW l Gr (zc n w) 168 M_Mo_give d 0 [some (.ref 105), some (.int x1), some (.int x2)] [] S Q := by
  refine z_go (Gr := Gr) (zc := zc n w) (K := 168) oV_Mo_give 2 (pc' := 4) (L' := [some (.ref 105), some (.int x1), some (.int x2)]) (st' := [.int (S.1 73 83)]) rfl ?_
  exact z_ifeq (Gr := Gr) (tgt := 19) (oV_Mo_give.1 (4, .ifCond .eq 15) (ip_lk_mem rfl)) (by decide) (fun q => (z_forget (k0 q) trivial)) (fun q => (k1 q))
set_option maxRecDepth 100000 in
theorem b_Mo_give_19 {l : Launch} {Gr : zG} {n w : Nat} {d : Nat} {S : zS} {Q : Option Value → zS → Prop}   (k0 : Q (some (.int 0)) S) : zW l Gr (zc n w) 168 M_Mo_give d 19 [none, none, none] [] S Q := by
  refine z_go (Gr := Gr) (zc := zc n w) (K := 168) oV_Mo_give 1 (pc' := 20) (L' := [none, none, none]) (st' := [.int 0]) rfl ?_
  exact z_ret (v := (some (.int 0))) (oV_Mo_give.1 (20, .ireturn) (ip_lk_mem rfl)) k0
set_option maxRecDepth 100000 in
theorem b_Mo_give_7 {l : Launch} {Gr : zG} {n w : Nat} {d : Nat} {S : zS} {Q : Option Value → zS → Prop} {x1 : Int32} {x2 : Int32}  (k0 : x1 < 0 → zW l Gr (zc n w) 168 M_Mo_give d 19 [none, none, none] [] S Q) (k1 : ¬ x1 < 0 → zW l Gr (zc n w) 168 M_Mo_give d 11 [some (.ref 105), some (.int x1), some (.int x2)] [] S Q) : zW l Gr (zc n w) 168 M_Mo_give d 7 [some (.ref 105), some (.int x1), some (.int x2)] [] S Q := by
  refine z_go (Gr := Gr) (zc := zc n w) (K := 168) oV_Mo_give 1 (pc' := 8) (L' := [some (.ref 105), some (.int x1), some (.int x2)]) (st' := [.int x1]) rfl ?_
  exact z_iflt (Gr := Gr) (tgt := 19) (oV_Mo_give.1 (8, .ifCond .lt 11) (ip_lk_mem rfl)) (by decide) (fun q => (z_forget (k0 q) trivial)) (fun q => (k1 q))
set_option maxRecDepth 100000 in
theorem b_Mo_give_11 {l : Launch} {Gr : zG} {n w : Nat} {d : Nat} {S : zS} {Q : Option Value → zS → Prop} {x1 : Int32} {x2 : Int32}  (k0 : x1 < (S.1 73 75) → zW l Gr (zc n w) 168 M_Mo_give d 21 [some (.ref 105), some (.int x1), some (.int x2)] [] S Q) (k1 : ¬ x1 < (S.1 73 75) → zW l Gr (zc n w) 168 M_Mo_give d 19 [none, none, none] [] S Q) : zW l Gr (zc n w) 168 M_Mo_give d 11 [some (.ref 105), some (.int x1), some (.int x2)] [] S Q := by
  refine z_go (Gr := Gr) (zc := zc n w) (K := 168) oV_Mo_give 3 (pc' := 16) (L' := [some (.ref 105), some (.int x1), some (.int x2)]) (st' := [.int (S.1 73 75), .int x1]) rfl ?_
  exact z_iclt (Gr := Gr) (tgt := 21) (oV_Mo_give.1 (16, .if_icmp .lt 5) (ip_lk_mem rfl)) (by decide) (fun q => (k0 q)) (fun q => (z_forget (k1 q) trivial))
set_option maxRecDepth 100000 in
theorem b_Mo_give_21 {l : Launch} {Gr : zG} {n w : Nat} {d : Nat} {S : zS} {Q : Option Value → zS → Prop} {x1 : Int32} {x2 : Int32} (g0 : vp_in x1 256) (k0 : (S.1 73 119) = 0 → zW l Gr (zc n w) 168 M_Mo_give d 59 [none, none, none] [.ref 105] (zj S 118 ((x1 : Int32).toNatClampNeg) (((x2 : Int32)).toInt64 &&& ((1 <<< (((S.1 116 ((x1 : Int32).toNatClampNeg)) : Int32).toInt64 &&& 63)) - 1))) Q) (k1 : ¬ (S.1 73 119) = 0 → zW l Gr (zc n w) 168 M_Mo_give d 48 [some (.ref 105), none, none] [.ref 105] (zj S 118 ((x1 : Int32).toNatClampNeg) (((x2 : Int32)).toInt64 &&& ((1 <<< (((S.1 116 ((x1 : Int32).toNatClampNeg)) : Int32).toInt64 &&& 63)) - 1))) Q) : zW l Gr (zc n w) 168 M_Mo_give d 21 [some (.ref 105), some (.int x1), some (.int x2)] [] S Q := by
  refine z_go (Gr := Gr) (zc := zc n w) (K := 168) oV_Mo_give 9 (pc' := 34) (L' := [some (.ref 105), some (.int x1), some (.int x2)]) (st' := [.int x1, .ref 148, .long 1, .long ((x2 : Int32)).toInt64, .int x1, .ref 150]) rfl ?_
  refine z_iald (Gr := Gr) (c := 116) (oV_Mo_give.1 (34, .iaload) (ip_lk_mem rfl)) (by decide) rfl g0 ?_
  refine z_go (Gr := Gr) (zc := zc n w) (K := 168) oV_Mo_give 4 (pc' := 39) (L' := [some (.ref 105), some (.int x1), some (.int x2)]) (st' := [.long (((x2 : Int32)).toInt64 &&& ((1 <<< (((S.1 116 ((x1 : Int32).toNatClampNeg)) : Int32).toInt64 &&& 63)) - 1)), .int x1, .ref 150]) rfl ?_
  refine z_last (Gr := Gr) (c := 118) (oV_Mo_give.1 (39, .lastore) (ip_lk_mem rfl)) (by decide) (fun _ => rfl) g0 ?_
  refine z_go (Gr := Gr) (zc := zc n w) (K := 168) oV_Mo_give 2 (pc' := 42) (L' := [some (.ref 105), some (.int x1), some (.int x2)]) (st' := [.ref 105, .ref 105]) rfl ?_
  refine z_getI (Gr := Gr) (c := 73) (oV_Mo_give.1 (42, .getfield 777) (ip_lk_mem rfl)) (oV_Mo_give.2.1 (777, 12, 119, .boolean, false) (ip_lk_mem rfl)).1 (by decide) (zo_73 _ _ _ _) (zg_73_119 _ _ _ _) zj_1 ?_
  exact z_ifeq (Gr := Gr) (tgt := 59) (oV_Mo_give.1 (45, .ifCond .eq 14) (ip_lk_mem rfl)) (by decide) (fun q => (z_forget (k0 q) trivial)) (fun q => (z_forget (k1 q) (And.intro rfl trivial)))
set_option maxRecDepth 100000 in
theorem b_Mo_give_59 {l : Launch} {Gr : zG} {n w : Nat} {d : Nat} {S : zS} {Q : Option Value → zS → Prop}   (k0 : zW l Gr (zc n w) 168 M_Mo_give d 60 [none, none, none] [.int 0, .ref 105] S Q) : zW l Gr (zc n w) 168 M_Mo_give d 59 [none, none, none] [.ref 105] S Q := by
  refine z_go (Gr := Gr) (zc := zc n w) (K := 168) oV_Mo_give 1 (pc' := 60) (L' := [none, none, none]) (st' := [.int 0, .ref 105]) rfl ?_
  exact k0
set_option maxRecDepth 100000 in
theorem b_Mo_give_48 {l : Launch} {Gr : zG} {n w : Nat} {d : Nat} {S : zS} {Q : Option Value → zS → Prop}   (k0 : (S.1 73 124) = 0 → zW l Gr (zc n w) 168 M_Mo_give d 59 [none, none, none] [.ref 105] S Q) (k1 : ¬ (S.1 73 124) = 0 → zW l Gr (zc n w) 168 M_Mo_give d 55 [none, none, none] [.ref 105] S Q) : zW l Gr (zc n w) 168 M_Mo_give d 48 [some (.ref 105), none, none] [.ref 105] S Q := by
  refine z_go (Gr := Gr) (zc := zc n w) (K := 168) oV_Mo_give 2 (pc' := 52) (L' := [some (.ref 105), none, none]) (st' := [.int (S.1 73 124), .ref 105]) rfl ?_
  exact z_ifeq (Gr := Gr) (tgt := 59) (oV_Mo_give.1 (52, .ifCond .eq 7) (ip_lk_mem rfl)) (by decide) (fun q => (z_forget (k0 q) trivial)) (fun q => (z_forget (k1 q) trivial))
set_option maxRecDepth 100000 in
theorem b_Mo_give_60 {l : Launch} {Gr : zG} {n w : Nat} {d : Nat} {S : zS} {Q : Option Value → zS → Prop} {s0 : Int32} (g0 : fits .boolean (.int s0) = true) (k0 : Q (some (.int 1)) (zi S 73 119 s0)) : zW l Gr (zc n w) 168 M_Mo_give d 60 [none, none, none] [.int s0, .ref 105] S Q := by
  refine z_putI (Gr := Gr) (c := 73) (oV_Mo_give.1 (60, .putfield 777) (ip_lk_mem rfl)) (oV_Mo_give.2.1 (777, 12, 119, .boolean, false) (ip_lk_mem rfl)).1 (by decide) (zo_73 _ _ _ _) (zs_73_119 _ _ _ _ _) (zn_73_119 _ _ _ _) g0 ?_
  refine z_go (Gr := Gr) (zc := zc n w) (K := 168) oV_Mo_give 1 (pc' := 64) (L' := [none, none, none]) (st' := [.int 1]) rfl ?_
  exact z_ret (v := (some (.int 1))) (oV_Mo_give.1 (64, .ireturn) (ip_lk_mem rfl)) k0
set_option maxRecDepth 100000 in
theorem b_Mo_give_55 {l : Launch} {Gr : zG} {n w : Nat} {d : Nat} {S : zS} {Q : Option Value → zS → Prop}   (k0 : zW l Gr (zc n w) 168 M_Mo_give d 60 [none, none, none] [.int 1, .ref 105] S Q) : zW l Gr (zc n w) 168 M_Mo_give d 55 [none, none, none] [.ref 105] S Q := by
  refine z_go (Gr := Gr) (zc := zc n w) (K := 168) oV_Mo_give 2 (pc' := 60) (L' := [none, none, none]) (st' := [.int 1, .ref 105]) rfl ?_
  exact k0
theorem e_Mo_give {l : Launch} {Gr : zG} {n w : Nat} {d : Nat} {S : zS} {R : Int32 → zS → Prop} {x1 : Int32} {x2 : Int32} (k : zW l Gr (zc n w) 168 M_Mo_give d 0 [some (.ref 105), some (.int x1), some (.int x2)] [] S (fun v S' => ∃ x, v = some (.int x) ∧ (x = 0 ∨ x = 1) ∧ R x S')) : zMi l Gr (zc n w) 168 M_Mo_give d [.ref 105, .int x1, .int x2] S R := z_mb oM_Mo_give rfl (Nat.le_of_ble_eq_true rfl) k
set_option maxRecDepth 100000 in
theorem b_Mo_seed_0 {l : Launch} {Gr : zG} {n w : Nat} {d : Nat} {S : zS} {Q : Option Value → zS → Prop} {x1 : Int32}  (k0 : Q none (zi S 73 120 x1)) : zW l Gr (zc n w) 168 M_Mo_seed d 0 [some (.ref 105), some (.int x1)] [] S Q := by
  refine z_go (Gr := Gr) (zc := zc n w) (K := 168) oV_Mo_seed 2 (pc' := 2) (L' := [some (.ref 105), some (.int x1)]) (st' := [.int x1, .ref 105]) rfl ?_
  refine z_putI (Gr := Gr) (c := 73) (oV_Mo_seed.1 (2, .putfield 310) (ip_lk_mem rfl)) (oV_Mo_seed.2.1 (310, 12, 120, .int, false) (ip_lk_mem rfl)).1 (by decide) (zo_73 _ _ _ _) (zs_73_120 _ _ _ _ _) (zn_73_120 _ _ _ _) rfl ?_
  exact z_ret (v := none) (oV_Mo_seed.1 (5, .return_) (ip_lk_mem rfl)) k0
theorem e_Mo_seed {l : Launch} {Gr : zG} {n w : Nat} {d : Nat} {S : zS} {R : zS → Prop} {x1 : Int32} (k : zW l Gr (zc n w) 168 M_Mo_seed d 0 [some (.ref 105), some (.int x1)] [] S (fun v S' => v = none ∧ R S')) : zMv l Gr (zc n w) 168 M_Mo_seed d [.ref 105, .int x1] S R := z_mv oM_Mo_seed rfl (Nat.le_of_ble_eq_true rfl) k
set_option maxRecDepth 100000 in
theorem b_Mo_deal_0 {l : Launch} {Gr : zG} {n w : Nat} {d : Nat} {S : zS} {Q : Option Value → zS → Prop}   (k0 : ¬ (S.1 73 83) = 0 → zW l Gr (zc n w) 168 M_Mo_deal (d + 1) 9 [some (.ref 105), none] [] S Q) (k1 : (S.1 73 83) = 0 → zW l Gr (zc n w) 168 M_Mo_deal (d + 1) 7 [none, none] [] S Q) : zW l Gr (zc n w) 168 M_Mo_deal (d + 1) 0 [some (.ref 105), none] [] S Q := by
  refine z_go (Gr := Gr) (zc := zc n w) (K := 168) oV_Mo_deal 2 (pc' := 4) (L' := [some (.ref 105), none]) (st' := [.int (S.1 73 83)]) rfl ?_
  exact z_ifne (Gr := Gr) (tgt := 9) (oV_Mo_deal.1 (4, .ifCond .ne 5) (ip_lk_mem rfl)) (by decide) (fun q => (k0 q)) (fun q => (z_forget (k1 q) trivial))
set_option maxRecDepth 100000 in
theorem b_Mo_deal_9 {l : Launch} {Gr : zG} {n w : Nat} {d : Nat} {S : zS} {Q : Option Value → zS → Prop} {R : zS → Prop} (hg : ip_gk (lg_tbl, vwCl, Gr))   (k0 : zMv l Gr (zc n w) 168 M_Mo_forget d [.ref 105] S R) (k1 : ∀ S', R S' → zW l Gr (zc n w) 168 M_Mo_deal (d + 1) 13 [some (.ref 105), none] [] S' Q) : zW l Gr (zc n w) 168 M_Mo_deal (d + 1) 9 [some (.ref 105), none] [] S Q := by
  refine z_go (Gr := Gr) (zc := zc n w) (K := 168) oV_Mo_deal 1 (pc' := 10) (L' := [some (.ref 105), none]) (st' := [.ref 105]) rfl ?_
  exact z_callV (Gr := Gr) hg.2.2.1 fT oM_Mo_forget (oV_Mo_deal.1 (10, .invokevirtual 836) (ip_lk_mem rfl)) ⟨tt_9 _ (List.mem_of_getElem? (i := 29) rfl) rfl, tt_9 _ (List.mem_of_getElem? (i := 31) rfl) rfl, fS_Mo_forget⟩ (c := 73) (ci := 12) (As := []) rfl rfl rfl (by decide) rfl (Nat.le_of_ble_eq_true rfl) k0 (fun v S' q => by obtain ⟨rfl, q⟩ := q; exact (k1 _ q))
set_option maxRecDepth 100000 in
theorem b_Mo_deal_7 {l : Launch} {Gr : zG} {n w : Nat} {d : Nat} {S : zS} {Q : Option Value → zS → Prop}   (k0 : Q (some (.int 0)) S) : zW l Gr (zc n w) 168 M_Mo_deal (d + 1) 7 [none, none] [] S Q := by
  refine z_go (Gr := Gr) (zc := zc n w) (K := 168) oV_Mo_deal 1 (pc' := 8) (L' := [none, none]) (st' := [.int 0]) rfl ?_
  exact z_ret (v := (some (.int 0))) (oV_Mo_deal.1 (8, .ireturn) (ip_lk_mem rfl)) k0
set_option maxRecDepth 100000 in
theorem b_Mo_deal_13 {l : Launch} {Gr : zG} {n w : Nat} {d : Nat} {S : zS} {Q : Option Value → zS → Prop}   (k0 : zW l Gr (zc n w) 168 M_Mo_deal (d + 1) 20 [some (.ref 105), some (.int 0)] [] (zi S 73 124 1) Q) : zW l Gr (zc n w) 168 M_Mo_deal (d + 1) 13 [some (.ref 105), none] [] S Q := by
  refine z_go (Gr := Gr) (zc := zc n w) (K := 168) oV_Mo_deal 2 (pc' := 15) (L' := [some (.ref 105), none]) (st' := [.int 1, .ref 105]) rfl ?_
  refine z_putI (Gr := Gr) (c := 73) (oV_Mo_deal.1 (15, .putfield 762) (ip_lk_mem rfl)) (oV_Mo_deal.2.1 (762, 12, 124, .boolean, false) (ip_lk_mem rfl)).1 (by decide) (zo_73 _ _ _ _) (zs_73_124 _ _ _ _ _) (zn_73_124 _ _ _ _) (by decide) ?_
  refine z_go (Gr := Gr) (zc := zc n w) (K := 168) oV_Mo_deal 2 (pc' := 20) (L' := [some (.ref 105), some (.int 0)]) (st' := []) rfl ?_
  exact k0
set_option maxRecDepth 100000 in
theorem b_Mo_deal_20 {l : Launch} {Gr : zG} {n w : Nat} {d : Nat} {S : zS} {Q : Option Value → zS → Prop} {x1 : Int32}  (k0 : (S.1 73 75) ≤ x1 → zW l Gr (zc n w) 168 M_Mo_deal (d + 1) 46 [some (.ref 105), none] [] S Q) (k1 : ¬ (S.1 73 75) ≤ x1 → zW l Gr (zc n w) 168 M_Mo_deal (d + 1) 28 [some (.ref 105), some (.int x1)] [] S Q) : zW l Gr (zc n w) 168 M_Mo_deal (d + 1) 20 [some (.ref 105), some (.int x1)] [] S Q := by
  refine z_go (Gr := Gr) (zc := zc n w) (K := 168) oV_Mo_deal 3 (pc' := 25) (L' := [some (.ref 105), some (.int x1)]) (st' := [.int (S.1 73 75), .int x1]) rfl ?_
  exact z_icge (Gr := Gr) (tgt := 46) (oV_Mo_deal.1 (25, .if_icmp .ge 21) (ip_lk_mem rfl)) (by decide) (fun q => (z_forget (k0 q) (And.intro rfl trivial))) (fun q => (k1 q))
set_option maxRecDepth 100000 in
theorem b_Mo_deal_46 {l : Launch} {Gr : zG} {n w : Nat} {d : Nat} {S : zS} {Q : Option Value → zS → Prop} {R : zS → Prop} (hg : ip_gk (lg_tbl, vwCl, Gr))   (k0 : zMv l Gr (zc n w) 168 M_Mo_shareAll d [.ref 105] S R) (k1 : ∀ S', R S' → zW l Gr (zc n w) 168 M_Mo_deal (d + 1) 50 [some (.ref 105), none] [] S' Q) : zW l Gr (zc n w) 168 M_Mo_deal (d + 1) 46 [some (.ref 105), none] [] S Q := by
  refine z_go (Gr := Gr) (zc := zc n w) (K := 168) oV_Mo_deal 1 (pc' := 47) (L' := [some (.ref 105), none]) (st' := [.ref 105]) rfl ?_
  exact z_callV (Gr := Gr) hg.2.2.1 fT oM_Mo_shareAll (oV_Mo_deal.1 (47, .invokevirtual 857) (ip_lk_mem rfl)) ⟨tt_10 _ (List.mem_of_getElem? (i := 222) rfl) rfl, tt_10 _ (List.mem_of_getElem? (i := 224) rfl) rfl, fS_Mo_shareAll⟩ (c := 73) (ci := 12) (As := []) rfl rfl rfl (by decide) rfl (Nat.le_of_ble_eq_true rfl) k0 (fun v S' q => by obtain ⟨rfl, q⟩ := q; exact (k1 _ q))
set_option maxRecDepth 100000 in
theorem b_Mo_deal_28 {l : Launch} {Gr : zG} {n w : Nat} {d : Nat} {S : zS} {Q : Option Value → zS → Prop} {x1 : Int32} (g0 : vp_in x1 256) (k0 : zW l Gr (zc n w) 168 M_Mo_deal (d + 1) 20 [some (.ref 105), some (.int (x1 + Int32.ofInt 1))] [] (zj S 119 ((x1 : Int32).toNatClampNeg) (S.2 118 ((x1 : Int32).toNatClampNeg))) Q) : zW l Gr (zc n w) 168 M_Mo_deal (d + 1) 28 [some (.ref 105), some (.int x1)] [] S Q := by
  refine z_go (Gr := Gr) (zc := zc n w) (K := 168) oV_Mo_deal 6 (pc' := 38) (L' := [some (.ref 105), some (.int x1)]) (st' := [.int x1, .ref 150, .int x1, .ref 151]) rfl ?_
  refine z_lald (Gr := Gr) (c := 118) (oV_Mo_deal.1 (38, .laload) (ip_lk_mem rfl)) (by decide) rfl g0 ?_
  refine z_last (Gr := Gr) (c := 119) (oV_Mo_deal.1 (39, .lastore) (ip_lk_mem rfl)) (by decide) (fun _ => rfl) g0 ?_
  refine z_go (Gr := Gr) (zc := zc n w) (K := 168) oV_Mo_deal 2 (pc' := 20) (L' := [some (.ref 105), some (.int (x1 + Int32.ofInt 1))]) (st' := []) rfl ?_
  exact k0
set_option maxRecDepth 100000 in
theorem b_Mo_deal_50 {l : Launch} {Gr : zG} {n w : Nat} {d : Nat} {S : zS} {Q : Option Value → zS → Prop}   (k0 : zW l Gr (zc n w) 168 M_Mo_deal (d + 1) 52 [some (.ref 105), some (.int 0)] [] S Q) : zW l Gr (zc n w) 168 M_Mo_deal (d + 1) 50 [some (.ref 105), none] [] S Q := by
  refine z_go (Gr := Gr) (zc := zc n w) (K := 168) oV_Mo_deal 2 (pc' := 52) (L' := [some (.ref 105), some (.int 0)]) (st' := []) rfl ?_
  exact k0
set_option maxRecDepth 100000 in
theorem b_Mo_deal_52 {l : Launch} {Gr : zG} {n w : Nat} {d : Nat} {S : zS} {Q : Option Value → zS → Prop} {x1 : Int32}  (k0 : (nI n) ≤ x1 → zW l Gr (zc n w) 168 M_Mo_deal (d + 1) 101 [some (.ref 105), none] [] S Q) (k1 : ¬ (nI n) ≤ x1 → zW l Gr (zc n w) 168 M_Mo_deal (d + 1) 60 [some (.ref 105), some (.int x1)] [] S Q) : zW l Gr (zc n w) 168 M_Mo_deal (d + 1) 52 [some (.ref 105), some (.int x1)] [] S Q := by
  refine z_go (Gr := Gr) (zc := zc n w) (K := 168) oV_Mo_deal 3 (pc' := 57) (L' := [some (.ref 105), some (.int x1)]) (st' := [.int (nI n), .int x1]) rfl ?_
  exact z_icge (Gr := Gr) (tgt := 101) (oV_Mo_deal.1 (57, .if_icmp .ge 44) (ip_lk_mem rfl)) (by decide) (fun q => (z_forget (k0 q) (And.intro rfl trivial))) (fun q => (k1 q))
set_option maxRecDepth 100000 in
theorem b_Mo_deal_101 {l : Launch} {Gr : zG} {n w : Nat} {d : Nat} {S : zS} {Q : Option Value → zS → Prop}   (k0 : zW l Gr (zc n w) 168 M_Mo_deal (d + 1) 103 [some (.ref 105), some (.int 0)] [] S Q) : zW l Gr (zc n w) 168 M_Mo_deal (d + 1) 101 [some (.ref 105), none] [] S Q := by
  refine z_go (Gr := Gr) (zc := zc n w) (K := 168) oV_Mo_deal 2 (pc' := 103) (L' := [some (.ref 105), some (.int 0)]) (st' := []) rfl ?_
  exact k0
set_option maxRecDepth 100000 in
theorem b_Mo_deal_60 {l : Launch} {Gr : zG} {n w : Nat} {d : Nat} {S : zS} {Q : Option Value → zS → Prop} {x1 : Int32} (g0 : vp_in x1 16) (k0 : zW l Gr (zc n w) 168 M_Mo_deal (d + 1) 52 [some (.ref 105), some (.int (x1 + Int32.ofInt 1))] [] (zi (zi (zi (zi (zi S 157 ((x1 : Int32).toNatClampNeg) 0) 158 ((x1 : Int32).toNatClampNeg) 0) 159 ((x1 : Int32).toNatClampNeg) 0) 160 ((x1 : Int32).toNatClampNeg) 0) 161 ((x1 : Int32).toNatClampNeg) 0) Q) : zW l Gr (zc n w) 168 M_Mo_deal (d + 1) 60 [some (.ref 105), some (.int x1)] [] S Q := by
  refine z_go (Gr := Gr) (zc := zc n w) (K := 168) oV_Mo_deal 4 (pc' := 66) (L' := [some (.ref 105), some (.int x1)]) (st' := [.int 0, .int x1, .ref 189]) rfl ?_
  refine z_iast (Gr := Gr) (c := 157) (oV_Mo_deal.1 (66, .iastore) (ip_lk_mem rfl)) (by decide) (fun _ => rfl) g0 ?_
  refine z_go (Gr := Gr) (zc := zc n w) (K := 168) oV_Mo_deal 4 (pc' := 73) (L' := [some (.ref 105), some (.int x1)]) (st' := [.int 0, .int x1, .ref 190]) rfl ?_
  refine z_iast (Gr := Gr) (c := 158) (oV_Mo_deal.1 (73, .iastore) (ip_lk_mem rfl)) (by decide) (fun _ => rfl) g0 ?_
  refine z_go (Gr := Gr) (zc := zc n w) (K := 168) oV_Mo_deal 4 (pc' := 80) (L' := [some (.ref 105), some (.int x1)]) (st' := [.int 0, .int x1, .ref 191]) rfl ?_
  refine z_iast (Gr := Gr) (c := 159) (oV_Mo_deal.1 (80, .iastore) (ip_lk_mem rfl)) (by decide) (fun _ => rfl) g0 ?_
  refine z_go (Gr := Gr) (zc := zc n w) (K := 168) oV_Mo_deal 4 (pc' := 87) (L' := [some (.ref 105), some (.int x1)]) (st' := [.int 0, .int x1, .ref 192]) rfl ?_
  refine z_iast (Gr := Gr) (c := 160) (oV_Mo_deal.1 (87, .iastore) (ip_lk_mem rfl)) (by decide) (fun _ => rfl) g0 ?_
  refine z_go (Gr := Gr) (zc := zc n w) (K := 168) oV_Mo_deal 4 (pc' := 94) (L' := [some (.ref 105), some (.int x1)]) (st' := [.int 0, .int x1, .ref 193]) rfl ?_
  refine z_iast (Gr := Gr) (c := 161) (oV_Mo_deal.1 (94, .iastore) (ip_lk_mem rfl)) (by decide) (fun _ => rfl) g0 ?_
  refine z_go (Gr := Gr) (zc := zc n w) (K := 168) oV_Mo_deal 2 (pc' := 52) (L' := [some (.ref 105), some (.int (x1 + Int32.ofInt 1))]) (st' := []) rfl ?_
  exact k0
set_option maxRecDepth 100000 in
theorem b_Mo_deal_103 {l : Launch} {Gr : zG} {n w : Nat} {d : Nat} {S : zS} {Q : Option Value → zS → Prop} {x1 : Int32}  (k0 : (nI n) ≤ x1 → zW l Gr (zc n w) 168 M_Mo_deal (d + 1) 122 [none, none] [] S Q) (k1 : ¬ (nI n) ≤ x1 → zW l Gr (zc n w) 168 M_Mo_deal (d + 1) 111 [some (.ref 105), some (.int x1)] [] S Q) : zW l Gr (zc n w) 168 M_Mo_deal (d + 1) 103 [some (.ref 105), some (.int x1)] [] S Q := by
  refine z_go (Gr := Gr) (zc := zc n w) (K := 168) oV_Mo_deal 3 (pc' := 108) (L' := [some (.ref 105), some (.int x1)]) (st' := [.int (nI n), .int x1]) rfl ?_
  exact z_icge (Gr := Gr) (tgt := 122) (oV_Mo_deal.1 (108, .if_icmp .ge 14) (ip_lk_mem rfl)) (by decide) (fun q => (z_forget (k0 q) trivial)) (fun q => (k1 q))
set_option maxRecDepth 100000 in
theorem b_Mo_deal_122 {l : Launch} {Gr : zG} {n w : Nat} {d : Nat} {S : zS} {Q : Option Value → zS → Prop}   (k0 : Q (some (.int 1)) S) : zW l Gr (zc n w) 168 M_Mo_deal (d + 1) 122 [none, none] [] S Q := by
  refine z_go (Gr := Gr) (zc := zc n w) (K := 168) oV_Mo_deal 1 (pc' := 123) (L' := [none, none]) (st' := [.int 1]) rfl ?_
  exact z_ret (v := (some (.int 1))) (oV_Mo_deal.1 (123, .ireturn) (ip_lk_mem rfl)) k0
set_option maxRecDepth 100000 in
theorem b_Mo_deal_111 {l : Launch} {Gr : zG} {n w : Nat} {d : Nat} {S : zS} {Q : Option Value → zS → Prop} {R : zS → Prop} (hg : ip_gk (lg_tbl, vwCl, Gr)) {x1 : Int32}  (k0 : zMv l Gr (zc n w) 168 M_Mo_sendRound d [.ref 105, .int x1] S R) (k1 : ∀ S', R S' → zW l Gr (zc n w) 168 M_Mo_deal (d + 1) 116 [some (.ref 105), some (.int x1)] [] S' Q) : zW l Gr (zc n w) 168 M_Mo_deal (d + 1) 111 [some (.ref 105), some (.int x1)] [] S Q := by
  refine z_go (Gr := Gr) (zc := zc n w) (K := 168) oV_Mo_deal 2 (pc' := 113) (L' := [some (.ref 105), some (.int x1)]) (st' := [.int x1, .ref 105]) rfl ?_
  exact z_callV (Gr := Gr) hg.2.2.1 fT oM_Mo_sendRound (oV_Mo_deal.1 (113, .invokevirtual 833) (ip_lk_mem rfl)) ⟨tt_10 _ (List.mem_of_getElem? (i := 239) rfl) rfl, tt_11 _ (List.mem_of_getElem? (i := 1) rfl) rfl, fS_Mo_sendRound⟩ (c := 73) (ci := 12) (As := [.int x1]) rfl rfl rfl (by decide) rfl (Nat.le_of_ble_eq_true rfl) k0 (fun v S' q => by obtain ⟨rfl, q⟩ := q; exact (k1 _ q))
set_option maxRecDepth 100000 in
theorem b_Mo_deal_116 {l : Launch} {Gr : zG} {n w : Nat} {d : Nat} {S : zS} {Q : Option Value → zS → Prop} {x1 : Int32}  (k0 : zW l Gr (zc n w) 168 M_Mo_deal (d + 1) 103 [some (.ref 105), some (.int (x1 + Int32.ofInt 1))] [] S Q) : zW l Gr (zc n w) 168 M_Mo_deal (d + 1) 116 [some (.ref 105), some (.int x1)] [] S Q := by
  refine z_go (Gr := Gr) (zc := zc n w) (K := 168) oV_Mo_deal 2 (pc' := 103) (L' := [some (.ref 105), some (.int (x1 + Int32.ofInt 1))]) (st' := []) rfl ?_
  exact k0
theorem e_Mo_deal {l : Launch} {Gr : zG} {n w : Nat} {d : Nat} {S : zS} {R : Int32 → zS → Prop}  (k : zW l Gr (zc n w) 168 M_Mo_deal (d + 1) 0 [some (.ref 105), none] [] S (fun v S' => ∃ x, v = some (.int x) ∧ (x = 0 ∨ x = 1) ∧ R x S')) : zMi l Gr (zc n w) 168 M_Mo_deal (d + 1) [.ref 105] S R := z_mb oM_Mo_deal rfl (Nat.le_of_ble_eq_true rfl) k
set_option maxRecDepth 100000 in
theorem b_Mo_message_0 {l : Launch} {Gr : zG} {n w : Nat} {d : Nat} {S : zS} {Q : Option Value → zS → Prop} {x1 : Int32} {x2 : Int32}  (k0 : x1 < 0 → zW l Gr (zc n w) 168 M_Mo_message (d + 1) 16 [none, none, none, none] [] S Q) (k1 : ¬ x1 < 0 → zW l Gr (zc n w) 168 M_Mo_message (d + 1) 4 [some (.ref 105), some (.int x1), some (.int x2), none] [] S Q) : zW l Gr (zc n w) 168 M_Mo_message (d + 1) 0 [some (.ref 105), some (.int x1), some (.int x2), none] [] S Q := by
  refine z_go (Gr := Gr) (zc := zc n w) (K := 168) oV_Mo_message 1 (pc' := 1) (L' := [some (.ref 105), some (.int x1), some (.int x2), none]) (st' := [.int x1]) rfl ?_
  exact z_iflt (Gr := Gr) (tgt := 16) (oV_Mo_message.1 (1, .ifCond .lt 15) (ip_lk_mem rfl)) (by decide) (fun q => (z_forget (k0 q) trivial)) (fun q => (k1 q))
set_option maxRecDepth 100000 in
theorem b_Mo_message_16 {l : Launch} {Gr : zG} {n w : Nat} {d : Nat} {S : zS} {Q : Option Value → zS → Prop}   (k0 : Q (some (.int (-1))) S) : zW l Gr (zc n w) 168 M_Mo_message (d + 1) 16 [none, none, none, none] [] S Q := by
  refine z_go (Gr := Gr) (zc := zc n w) (K := 168) oV_Mo_message 1 (pc' := 17) (L' := [none, none, none, none]) (st' := [.int (-1)]) rfl ?_
  exact z_ret (v := (some (.int (-1)))) (oV_Mo_message.1 (17, .ireturn) (ip_lk_mem rfl)) k0
set_option maxRecDepth 100000 in
theorem b_Mo_message_4 {l : Launch} {Gr : zG} {n w : Nat} {d : Nat} {S : zS} {Q : Option Value → zS → Prop} {x1 : Int32} {x2 : Int32}  (k0 : (S.1 73 139) ≤ x1 → zW l Gr (zc n w) 168 M_Mo_message (d + 1) 16 [none, none, none, none] [] S Q) (k1 : ¬ (S.1 73 139) ≤ x1 → zW l Gr (zc n w) 168 M_Mo_message (d + 1) 12 [some (.ref 105), some (.int x1), some (.int x2), none] [] S Q) : zW l Gr (zc n w) 168 M_Mo_message (d + 1) 4 [some (.ref 105), some (.int x1), some (.int x2), none] [] S Q := by
  refine z_go (Gr := Gr) (zc := zc n w) (K := 168) oV_Mo_message 3 (pc' := 9) (L' := [some (.ref 105), some (.int x1), some (.int x2), none]) (st' := [.int (S.1 73 139), .int x1]) rfl ?_
  exact z_icge (Gr := Gr) (tgt := 16) (oV_Mo_message.1 (9, .if_icmp .ge 7) (ip_lk_mem rfl)) (by decide) (fun q => (z_forget (k0 q) trivial)) (fun q => (k1 q))
set_option maxRecDepth 100000 in
theorem b_Mo_message_12 {l : Launch} {Gr : zG} {n w : Nat} {d : Nat} {S : zS} {Q : Option Value → zS → Prop} {x1 : Int32} {x2 : Int32}  (k0 : 0 ≤ x2 → zW l Gr (zc n w) 168 M_Mo_message (d + 1) 18 [some (.ref 105), some (.int x1), some (.int x2), none] [] S Q) (k1 : ¬ 0 ≤ x2 → zW l Gr (zc n w) 168 M_Mo_message (d + 1) 16 [none, none, none, none] [] S Q) : zW l Gr (zc n w) 168 M_Mo_message (d + 1) 12 [some (.ref 105), some (.int x1), some (.int x2), none] [] S Q := by
  refine z_go (Gr := Gr) (zc := zc n w) (K := 168) oV_Mo_message 1 (pc' := 13) (L' := [some (.ref 105), some (.int x1), some (.int x2), none]) (st' := [.int x2]) rfl ?_
  exact z_ifge (Gr := Gr) (tgt := 18) (oV_Mo_message.1 (13, .ifCond .ge 5) (ip_lk_mem rfl)) (by decide) (fun q => (k0 q)) (fun q => (z_forget (k1 q) trivial))
set_option maxRecDepth 100000 in
theorem b_Mo_message_18 {l : Launch} {Gr : zG} {n w : Nat} {d : Nat} {S : zS} {Q : Option Value → zS → Prop} {R : Int32 → zS → Prop} (hg : ip_gk (lg_tbl, vwCl, Gr)) {x1 : Int32} {x2 : Int32} (g0 : vp_in x1 1000) (k0 : zMi l Gr (zc n w) 168 M_Mo_lengthOf d [.ref 105, .int (S.1 164 ((x1 : Int32).toNatClampNeg)), .int (S.1 166 ((x1 : Int32).toNatClampNeg))] S R) (k1 : ∀ v S', R v S' → zW l Gr (zc n w) 168 M_Mo_message (d + 1) 34 [some (.ref 105), some (.int x1), some (.int x2), none] [.int v] S' Q) : zW l Gr (zc n w) 168 M_Mo_message (d + 1) 18 [some (.ref 105), some (.int x1), some (.int x2), none] [] S Q := by
  refine z_go (Gr := Gr) (zc := zc n w) (K := 168) oV_Mo_message 4 (pc' := 24) (L' := [some (.ref 105), some (.int x1), some (.int x2), none]) (st' := [.int x1, .ref 196, .ref 105]) rfl ?_
  refine z_iald (Gr := Gr) (c := 164) (oV_Mo_message.1 (24, .iaload) (ip_lk_mem rfl)) (by decide) rfl g0 ?_
  refine z_go (Gr := Gr) (zc := zc n w) (K := 168) oV_Mo_message 3 (pc' := 30) (L' := [some (.ref 105), some (.int x1), some (.int x2), none]) (st' := [.int x1, .ref 198, .int (S.1 164 ((x1 : Int32).toNatClampNeg)), .ref 105]) rfl ?_
  refine z_iald (Gr := Gr) (c := 166) (oV_Mo_message.1 (30, .iaload) (ip_lk_mem rfl)) (by decide) rfl g0 ?_
  exact z_callV (Gr := Gr) hg.2.2.1 fT oM_Mo_lengthOf (oV_Mo_message.1 (31, .invokevirtual 827) (ip_lk_mem rfl)) ⟨tt_11 _ (List.mem_of_getElem? (i := 7) rfl) rfl, tt_11 _ (List.mem_of_getElem? (i := 9) rfl) rfl, fS_Mo_lengthOf⟩ (c := 73) (ci := 12) (As := [.int (S.1 164 ((x1 : Int32).toNatClampNeg)), .int (S.1 166 ((x1 : Int32).toNatClampNeg))]) rfl rfl rfl (by decide) rfl (Nat.le_of_ble_eq_true rfl) k0 (fun v S' q => by obtain ⟨x, rfl, q⟩ := q; exact (k1 _ _ q))
set_option maxRecDepth 100000 in
theorem b_Mo_message_34 {l : Launch} {Gr : zG} {n w : Nat} {d : Nat} {S : zS} {Q : Option Value → zS → Prop} {x1 : Int32} {x2 : Int32} {s0 : Int32}  (k0 : 4 ≤ x2 → zW l Gr (zc n w) 168 M_Mo_message (d + 1) 83 [some (.ref 105), some (.int x1), some (.int x2), some (.int s0)] [] S Q) (k1 : ¬ 4 ≤ x2 → zW l Gr (zc n w) 168 M_Mo_message (d + 1) 40 [some (.ref 105), some (.int x1), some (.int x2), some (.int s0)] [] S Q) : zW l Gr (zc n w) 168 M_Mo_message (d + 1) 34 [some (.ref 105), some (.int x1), some (.int x2), none] [.int s0] S Q := by
  refine z_go (Gr := Gr) (zc := zc n w) (K := 168) oV_Mo_message 3 (pc' := 37) (L' := [some (.ref 105), some (.int x1), some (.int x2), some (.int s0)]) (st' := [.int 4, .int x2]) rfl ?_
  exact z_icge (Gr := Gr) (tgt := 83) (oV_Mo_message.1 (37, .if_icmp .ge 46) (ip_lk_mem rfl)) (by decide) (fun q => (k0 q)) (fun q => (k1 q))
set_option maxRecDepth 100000 in
theorem b_Mo_message_83 {l : Launch} {Gr : zG} {n w : Nat} {d : Nat} {S : zS} {Q : Option Value → zS → Prop} {x1 : Int32} {x2 : Int32} {x3 : Int32}  (k0 : x3 ≤ (x2 - 4) → zW l Gr (zc n w) 168 M_Mo_message (d + 1) 118 [none, none, none, none] [] S Q) (k1 : ¬ x3 ≤ (x2 - 4) → zW l Gr (zc n w) 168 M_Mo_message (d + 1) 90 [some (.ref 105), some (.int x1), some (.int x2), none] [] S Q) : zW l Gr (zc n w) 168 M_Mo_message (d + 1) 83 [some (.ref 105), some (.int x1), some (.int x2), some (.int x3)] [] S Q := by
  refine z_go (Gr := Gr) (zc := zc n w) (K := 168) oV_Mo_message 4 (pc' := 87) (L' := [some (.ref 105), some (.int x1), some (.int x2), some (.int x3)]) (st' := [.int x3, .int (x2 - 4)]) rfl ?_
  exact z_icge (Gr := Gr) (tgt := 118) (oV_Mo_message.1 (87, .if_icmp .ge 31) (ip_lk_mem rfl)) (by decide) (fun q => (z_forget (k0 q) trivial)) (fun q => (z_forget (k1 q) (And.intro rfl (And.intro rfl (And.intro rfl trivial)))))
set_option maxRecDepth 100000 in
theorem b_Mo_message_40 {l : Launch} {Gr : zG} {n w : Nat} {d : Nat} {S : zS} {Q : Option Value → zS → Prop} {x1 : Int32} {x2 : Int32} {x3 : Int32}  (k0 : ¬ x2 = 0 → zW l Gr (zc n w) 168 M_Mo_message (d + 1) 53 [some (.ref 105), some (.int x1), some (.int x2), some (.int x3)] [] S Q) (k1 : x2 = 0 → zW l Gr (zc n w) 168 M_Mo_message (d + 1) 44 [some (.ref 105), some (.int x1), none, none] [] S Q) : zW l Gr (zc n w) 168 M_Mo_message (d + 1) 40 [some (.ref 105), some (.int x1), some (.int x2), some (.int x3)] [] S Q := by
  refine z_go (Gr := Gr) (zc := zc n w) (K := 168) oV_Mo_message 1 (pc' := 41) (L' := [some (.ref 105), some (.int x1), some (.int x2), some (.int x3)]) (st' := [.int x2]) rfl ?_
  exact z_ifne (Gr := Gr) (tgt := 53) (oV_Mo_message.1 (41, .ifCond .ne 12) (ip_lk_mem rfl)) (by decide) (fun q => (k0 q)) (fun q => (z_forget (k1 q) (And.intro rfl (And.intro rfl trivial))))
set_option maxRecDepth 100000 in
theorem b_Mo_message_118 {l : Launch} {Gr : zG} {n w : Nat} {d : Nat} {S : zS} {Q : Option Value → zS → Prop}   (k0 : zW l Gr (zc n w) 168 M_Mo_message (d + 1) 119 [none, none, none, none] [.int (-1)] S Q) : zW l Gr (zc n w) 168 M_Mo_message (d + 1) 118 [none, none, none, none] [] S Q := by
  refine z_go (Gr := Gr) (zc := zc n w) (K := 168) oV_Mo_message 1 (pc' := 119) (L' := [none, none, none, none]) (st' := [.int (-1)]) rfl ?_
  exact k0
set_option maxRecDepth 100000 in
theorem b_Mo_message_90 {l : Launch} {Gr : zG} {n w : Nat} {d : Nat} {S : zS} {Q : Option Value → zS → Prop} {R : Int32 → zS → Prop} (hg : ip_gk (lg_tbl, vwCl, Gr)) {x1 : Int32} {x2 : Int32} (g0 : vp_in x1 1000) (k0 : zMi l Gr (zc n w) 168 M_Mo_sentBit d [.ref 105, .int (S.1 164 ((x1 : Int32).toNatClampNeg)), .int (S.1 165 ((x1 : Int32).toNatClampNeg)), .int (S.1 166 ((x1 : Int32).toNatClampNeg)), .int (x2 - 4)] S R) (k1 : ∀ v S', R v S' → zW l Gr (zc n w) 168 M_Mo_message (d + 1) 115 [none, none, none, none] [.int v] S' Q) : zW l Gr (zc n w) 168 M_Mo_message (d + 1) 90 [some (.ref 105), some (.int x1), some (.int x2), none] [] S Q := by
  refine z_go (Gr := Gr) (zc := zc n w) (K := 168) oV_Mo_message 4 (pc' := 96) (L' := [some (.ref 105), some (.int x1), some (.int x2), none]) (st' := [.int x1, .ref 196, .ref 105]) rfl ?_
  refine z_iald (Gr := Gr) (c := 164) (oV_Mo_message.1 (96, .iaload) (ip_lk_mem rfl)) (by decide) rfl g0 ?_
  refine z_go (Gr := Gr) (zc := zc n w) (K := 168) oV_Mo_message 3 (pc' := 102) (L' := [some (.ref 105), some (.int x1), some (.int x2), none]) (st' := [.int x1, .ref 197, .int (S.1 164 ((x1 : Int32).toNatClampNeg)), .ref 105]) rfl ?_
  refine z_iald (Gr := Gr) (c := 165) (oV_Mo_message.1 (102, .iaload) (ip_lk_mem rfl)) (by decide) rfl g0 ?_
  refine z_go (Gr := Gr) (zc := zc n w) (K := 168) oV_Mo_message 3 (pc' := 108) (L' := [some (.ref 105), some (.int x1), some (.int x2), none]) (st' := [.int x1, .ref 198, .int (S.1 165 ((x1 : Int32).toNatClampNeg)), .int (S.1 164 ((x1 : Int32).toNatClampNeg)), .ref 105]) rfl ?_
  refine z_iald (Gr := Gr) (c := 166) (oV_Mo_message.1 (108, .iaload) (ip_lk_mem rfl)) (by decide) rfl g0 ?_
  refine z_go (Gr := Gr) (zc := zc n w) (K := 168) oV_Mo_message 3 (pc' := 112) (L' := [some (.ref 105), some (.int x1), some (.int x2), none]) (st' := [.int (x2 - 4), .int (S.1 166 ((x1 : Int32).toNatClampNeg)), .int (S.1 165 ((x1 : Int32).toNatClampNeg)), .int (S.1 164 ((x1 : Int32).toNatClampNeg)), .ref 105]) rfl ?_
  exact z_callV (Gr := Gr) hg.2.2.1 fT oM_Mo_sentBit (oV_Mo_message.1 (112, .invokevirtual 860) (ip_lk_mem rfl)) ⟨tt_11 _ (List.mem_of_getElem? (i := 11) rfl) rfl, tt_11 _ (List.mem_of_getElem? (i := 13) rfl) rfl, fS_Mo_sentBit⟩ (c := 73) (ci := 12) (As := [.int (S.1 164 ((x1 : Int32).toNatClampNeg)), .int (S.1 165 ((x1 : Int32).toNatClampNeg)), .int (S.1 166 ((x1 : Int32).toNatClampNeg)), .int (x2 - 4)]) rfl rfl rfl (by decide) rfl (Nat.le_of_ble_eq_true rfl) k0 (fun v S' q => by obtain ⟨x, rfl, q⟩ := q; exact (z_forget (k1 _ _ q) trivial))
set_option maxRecDepth 100000 in
theorem b_Mo_message_53 {l : Launch} {Gr : zG} {n w : Nat} {d : Nat} {S : zS} {Q : Option Value → zS → Prop} {x1 : Int32} {x2 : Int32} {x3 : Int32}  (k0 : ¬ x2 = 1 → zW l Gr (zc n w) 168 M_Mo_message (d + 1) 67 [some (.ref 105), some (.int x1), some (.int x2), some (.int x3)] [] S Q) (k1 : x2 = 1 → zW l Gr (zc n w) 168 M_Mo_message (d + 1) 58 [some (.ref 105), some (.int x1), none, none] [] S Q) : zW l Gr (zc n w) 168 M_Mo_message (d + 1) 53 [some (.ref 105), some (.int x1), some (.int x2), some (.int x3)] [] S Q := by
  refine z_go (Gr := Gr) (zc := zc n w) (K := 168) oV_Mo_message 2 (pc' := 55) (L' := [some (.ref 105), some (.int x1), some (.int x2), some (.int x3)]) (st' := [.int 1, .int x2]) rfl ?_
  exact z_icne (Gr := Gr) (tgt := 67) (oV_Mo_message.1 (55, .if_icmp .ne 12) (ip_lk_mem rfl)) (by decide) (fun q => (k0 q)) (fun q => (z_forget (k1 q) (And.intro rfl (And.intro rfl trivial))))
set_option maxRecDepth 100000 in
theorem b_Mo_message_44 {l : Launch} {Gr : zG} {n w : Nat} {d : Nat} {S : zS} {Q : Option Value → zS → Prop} {x1 : Int32} (g0 : vp_in x1 1000) (k0 : zW l Gr (zc n w) 168 M_Mo_message (d + 1) 82 [none, none, none, none] [.int (S.1 164 ((x1 : Int32).toNatClampNeg))] S Q) : zW l Gr (zc n w) 168 M_Mo_message (d + 1) 44 [some (.ref 105), some (.int x1), none, none] [] S Q := by
  refine z_go (Gr := Gr) (zc := zc n w) (K := 168) oV_Mo_message 3 (pc' := 49) (L' := [some (.ref 105), some (.int x1), none, none]) (st' := [.int x1, .ref 196]) rfl ?_
  refine z_iald (Gr := Gr) (c := 164) (oV_Mo_message.1 (49, .iaload) (ip_lk_mem rfl)) (by decide) rfl g0 ?_
  refine z_go (Gr := Gr) (zc := zc n w) (K := 168) oV_Mo_message 1 (pc' := 82) (L' := [some (.ref 105), some (.int x1), none, none]) (st' := [.int (S.1 164 ((x1 : Int32).toNatClampNeg))]) rfl ?_
  exact (z_forget k0 trivial)
set_option maxRecDepth 100000 in
theorem b_Mo_message_119 {l : Launch} {Gr : zG} {n w : Nat} {d : Nat} {S : zS} {Q : Option Value → zS → Prop} {s0 : Int32}  (k0 : Q (some (.int s0)) S) : zW l Gr (zc n w) 168 M_Mo_message (d + 1) 119 [none, none, none, none] [.int s0] S Q := by
  exact z_ret (v := (some (.int s0))) (oV_Mo_message.1 (119, .ireturn) (ip_lk_mem rfl)) k0
set_option maxRecDepth 100000 in
theorem b_Mo_message_115 {l : Launch} {Gr : zG} {n w : Nat} {d : Nat} {S : zS} {Q : Option Value → zS → Prop} {s0 : Int32}  (k0 : zW l Gr (zc n w) 168 M_Mo_message (d + 1) 119 [none, none, none, none] [.int s0] S Q) : zW l Gr (zc n w) 168 M_Mo_message (d + 1) 115 [none, none, none, none] [.int s0] S Q := by
  refine z_go (Gr := Gr) (zc := zc n w) (K := 168) oV_Mo_message 1 (pc' := 119) (L' := [none, none, none, none]) (st' := [.int s0]) rfl ?_
  exact k0
set_option maxRecDepth 100000 in
theorem b_Mo_message_67 {l : Launch} {Gr : zG} {n w : Nat} {d : Nat} {S : zS} {Q : Option Value → zS → Prop} {x1 : Int32} {x2 : Int32} {x3 : Int32}  (k0 : ¬ x2 = 2 → zW l Gr (zc n w) 168 M_Mo_message (d + 1) 81 [none, none, none, some (.int x3)] [] S Q) (k1 : x2 = 2 → zW l Gr (zc n w) 168 M_Mo_message (d + 1) 72 [some (.ref 105), some (.int x1), none, none] [] S Q) : zW l Gr (zc n w) 168 M_Mo_message (d + 1) 67 [some (.ref 105), some (.int x1), some (.int x2), some (.int x3)] [] S Q := by
  refine z_go (Gr := Gr) (zc := zc n w) (K := 168) oV_Mo_message 2 (pc' := 69) (L' := [some (.ref 105), some (.int x1), some (.int x2), some (.int x3)]) (st' := [.int 2, .int x2]) rfl ?_
  exact z_icne (Gr := Gr) (tgt := 81) (oV_Mo_message.1 (69, .if_icmp .ne 12) (ip_lk_mem rfl)) (by decide) (fun q => (z_forget (k0 q) (And.intro rfl trivial))) (fun q => (z_forget (k1 q) (And.intro rfl (And.intro rfl trivial))))
set_option maxRecDepth 100000 in
theorem b_Mo_message_58 {l : Launch} {Gr : zG} {n w : Nat} {d : Nat} {S : zS} {Q : Option Value → zS → Prop} {x1 : Int32} (g0 : vp_in x1 1000) (k0 : zW l Gr (zc n w) 168 M_Mo_message (d + 1) 82 [none, none, none, none] [.int (S.1 165 ((x1 : Int32).toNatClampNeg))] S Q) : zW l Gr (zc n w) 168 M_Mo_message (d + 1) 58 [some (.ref 105), some (.int x1), none, none] [] S Q := by
  refine z_go (Gr := Gr) (zc := zc n w) (K := 168) oV_Mo_message 3 (pc' := 63) (L' := [some (.ref 105), some (.int x1), none, none]) (st' := [.int x1, .ref 197]) rfl ?_
  refine z_iald (Gr := Gr) (c := 165) (oV_Mo_message.1 (63, .iaload) (ip_lk_mem rfl)) (by decide) rfl g0 ?_
  refine z_go (Gr := Gr) (zc := zc n w) (K := 168) oV_Mo_message 1 (pc' := 82) (L' := [some (.ref 105), some (.int x1), none, none]) (st' := [.int (S.1 165 ((x1 : Int32).toNatClampNeg))]) rfl ?_
  exact (z_forget k0 trivial)
set_option maxRecDepth 100000 in
theorem b_Mo_message_82 {l : Launch} {Gr : zG} {n w : Nat} {d : Nat} {S : zS} {Q : Option Value → zS → Prop} {s0 : Int32}  (k0 : Q (some (.int s0)) S) : zW l Gr (zc n w) 168 M_Mo_message (d + 1) 82 [none, none, none, none] [.int s0] S Q := by
  exact z_ret (v := (some (.int s0))) (oV_Mo_message.1 (82, .ireturn) (ip_lk_mem rfl)) k0
set_option maxRecDepth 100000 in
theorem b_Mo_message_81 {l : Launch} {Gr : zG} {n w : Nat} {d : Nat} {S : zS} {Q : Option Value → zS → Prop} {x3 : Int32}  (k0 : zW l Gr (zc n w) 168 M_Mo_message (d + 1) 82 [none, none, none, none] [.int x3] S Q) : zW l Gr (zc n w) 168 M_Mo_message (d + 1) 81 [none, none, none, some (.int x3)] [] S Q := by
  refine z_go (Gr := Gr) (zc := zc n w) (K := 168) oV_Mo_message 1 (pc' := 82) (L' := [none, none, none, some (.int x3)]) (st' := [.int x3]) rfl ?_
  exact (z_forget k0 trivial)
set_option maxRecDepth 100000 in
theorem b_Mo_message_72 {l : Launch} {Gr : zG} {n w : Nat} {d : Nat} {S : zS} {Q : Option Value → zS → Prop} {x1 : Int32} (g0 : vp_in x1 1000) (k0 : zW l Gr (zc n w) 168 M_Mo_message (d + 1) 82 [none, none, none, none] [.int (S.1 166 ((x1 : Int32).toNatClampNeg))] S Q) : zW l Gr (zc n w) 168 M_Mo_message (d + 1) 72 [some (.ref 105), some (.int x1), none, none] [] S Q := by
  refine z_go (Gr := Gr) (zc := zc n w) (K := 168) oV_Mo_message 3 (pc' := 77) (L' := [some (.ref 105), some (.int x1), none, none]) (st' := [.int x1, .ref 198]) rfl ?_
  refine z_iald (Gr := Gr) (c := 166) (oV_Mo_message.1 (77, .iaload) (ip_lk_mem rfl)) (by decide) rfl g0 ?_
  refine z_go (Gr := Gr) (zc := zc n w) (K := 168) oV_Mo_message 1 (pc' := 82) (L' := [some (.ref 105), some (.int x1), none, none]) (st' := [.int (S.1 166 ((x1 : Int32).toNatClampNeg))]) rfl ?_
  exact (z_forget k0 trivial)
theorem e_Mo_message {l : Launch} {Gr : zG} {n w : Nat} {d : Nat} {S : zS} {R : Int32 → zS → Prop} {x1 : Int32} {x2 : Int32} (k : zW l Gr (zc n w) 168 M_Mo_message (d + 1) 0 [some (.ref 105), some (.int x1), some (.int x2), none] [] S (fun v S' => ∃ x, v = some (.int x) ∧ R x S')) : zMi l Gr (zc n w) 168 M_Mo_message (d + 1) [.ref 105, .int x1, .int x2] S R := z_mi oM_Mo_message rfl (Nat.le_of_ble_eq_true rfl) k
set_option maxRecDepth 100000 in
theorem b_Mo_deliver_0 {l : Launch} {Gr : zG} {n w : Nat} {d : Nat} {S : zS} {Q : Option Value → zS → Prop} {x1 : Int32}  (k0 : x1 < 0 → zW l Gr (zc n w) 168 M_Mo_deliver (d + 1) 12 [none, none] [] S Q) (k1 : ¬ x1 < 0 → zW l Gr (zc n w) 168 M_Mo_deliver (d + 1) 4 [some (.ref 105), some (.int x1)] [] S Q) : zW l Gr (zc n w) 168 M_Mo_deliver (d + 1) 0 [some (.ref 105), some (.int x1)] [] S Q := by
  refine z_go (Gr := Gr) (zc := zc n w) (K := 168) oV_Mo_deliver 1 (pc' := 1) (L' := [some (.ref 105), some (.int x1)]) (st' := [.int x1]) rfl ?_
  exact z_iflt (Gr := Gr) (tgt := 12) (oV_Mo_deliver.1 (1, .ifCond .lt 11) (ip_lk_mem rfl)) (by decide) (fun q => (z_forget (k0 q) trivial)) (fun q => (k1 q))
set_option maxRecDepth 100000 in
theorem b_Mo_deliver_12 {l : Launch} {Gr : zG} {n w : Nat} {d : Nat} {S : zS} {Q : Option Value → zS → Prop}   (k0 : zW l Gr (zc n w) 168 M_Mo_deliver (d + 1) 21 [none, none] [.int (-1)] S Q) : zW l Gr (zc n w) 168 M_Mo_deliver (d + 1) 12 [none, none] [] S Q := by
  refine z_go (Gr := Gr) (zc := zc n w) (K := 168) oV_Mo_deliver 2 (pc' := 21) (L' := [none, none]) (st' := [.int (-1)]) rfl ?_
  exact k0
set_option maxRecDepth 100000 in
theorem b_Mo_deliver_4 {l : Launch} {Gr : zG} {n w : Nat} {d : Nat} {S : zS} {Q : Option Value → zS → Prop} {x1 : Int32}  (k0 : x1 < (S.1 73 139) → zW l Gr (zc n w) 168 M_Mo_deliver (d + 1) 16 [some (.ref 105), some (.int x1)] [] S Q) (k1 : ¬ x1 < (S.1 73 139) → zW l Gr (zc n w) 168 M_Mo_deliver (d + 1) 12 [none, none] [] S Q) : zW l Gr (zc n w) 168 M_Mo_deliver (d + 1) 4 [some (.ref 105), some (.int x1)] [] S Q := by
  refine z_go (Gr := Gr) (zc := zc n w) (K := 168) oV_Mo_deliver 3 (pc' := 9) (L' := [some (.ref 105), some (.int x1)]) (st' := [.int (S.1 73 139), .int x1]) rfl ?_
  exact z_iclt (Gr := Gr) (tgt := 16) (oV_Mo_deliver.1 (9, .if_icmp .lt 7) (ip_lk_mem rfl)) (by decide) (fun q => (k0 q)) (fun q => (z_forget (k1 q) trivial))
set_option maxRecDepth 100000 in
theorem b_Mo_deliver_21 {l : Launch} {Gr : zG} {n w : Nat} {d : Nat} {S : zS} {Q : Option Value → zS → Prop} {s0 : Int32}  (k0 : Q (some (.int s0)) S) : zW l Gr (zc n w) 168 M_Mo_deliver (d + 1) 21 [none, none] [.int s0] S Q := by
  exact z_ret (v := (some (.int s0))) (oV_Mo_deliver.1 (21, .ireturn) (ip_lk_mem rfl)) k0
set_option maxRecDepth 100000 in
theorem b_Mo_deliver_16 {l : Launch} {Gr : zG} {n w : Nat} {d : Nat} {S : zS} {Q : Option Value → zS → Prop} {R : Int32 → zS → Prop} (hg : ip_gk (lg_tbl, vwCl, Gr)) {x1 : Int32}  (k0 : zMi l Gr (zc n w) 168 M_Mo_takeMessage d [.ref 105, .int x1] S R) (k1 : ∀ v S', R v S' → zW l Gr (zc n w) 168 M_Mo_deliver (d + 1) 21 [none, none] [.int v] S' Q) : zW l Gr (zc n w) 168 M_Mo_deliver (d + 1) 16 [some (.ref 105), some (.int x1)] [] S Q := by
  refine z_go (Gr := Gr) (zc := zc n w) (K := 168) oV_Mo_deliver 2 (pc' := 18) (L' := [some (.ref 105), some (.int x1)]) (st' := [.int x1, .ref 105]) rfl ?_
  exact z_callV (Gr := Gr) hg.2.2.1 fT oM_Mo_takeMessage (oV_Mo_deliver.1 (18, .invokevirtual 863) (ip_lk_mem rfl)) ⟨tt_11 _ (List.mem_of_getElem? (i := 19) rfl) rfl, tt_11 _ (List.mem_of_getElem? (i := 21) rfl) rfl, fS_Mo_takeMessage⟩ (c := 73) (ci := 12) (As := [.int x1]) rfl rfl rfl (by decide) rfl (Nat.le_of_ble_eq_true rfl) k0 (fun v S' q => by obtain ⟨x, rfl, q⟩ := q; exact (z_forget (k1 _ _ q) trivial))
theorem e_Mo_deliver {l : Launch} {Gr : zG} {n w : Nat} {d : Nat} {S : zS} {R : Int32 → zS → Prop} {x1 : Int32} (k : zW l Gr (zc n w) 168 M_Mo_deliver (d + 1) 0 [some (.ref 105), some (.int x1)] [] S (fun v S' => ∃ x, v = some (.int x) ∧ R x S')) : zMi l Gr (zc n w) 168 M_Mo_deliver (d + 1) [.ref 105, .int x1] S R := z_mi oM_Mo_deliver rfl (Nat.le_of_ble_eq_true rfl) k
set_option maxRecDepth 100000 in
theorem b_Mo_rush_0 {l : Launch} {Gr : zG} {n w : Nat} {d : Nat} {S : zS} {Q : Option Value → zS → Prop} {x1 : Int32} {x2 : Int32}  (k0 : x1 < 0 → zW l Gr (zc n w) 168 M_Mo_rush (d + 1) 15 [none, none, none, none, none] [] S Q) (k1 : ¬ x1 < 0 → zW l Gr (zc n w) 168 M_Mo_rush (d + 1) 4 [some (.ref 105), some (.int x1), some (.int x2), none, none] [] S Q) : zW l Gr (zc n w) 168 M_Mo_rush (d + 1) 0 [some (.ref 105), some (.int x1), some (.int x2), none, none] [] S Q := by
  refine z_go (Gr := Gr) (zc := zc n w) (K := 168) oV_Mo_rush 1 (pc' := 1) (L' := [some (.ref 105), some (.int x1), some (.int x2), none, none]) (st' := [.int x1]) rfl ?_
  exact z_iflt (Gr := Gr) (tgt := 15) (oV_Mo_rush.1 (1, .ifCond .lt 14) (ip_lk_mem rfl)) (by decide) (fun q => (z_forget (k0 q) trivial)) (fun q => (k1 q))
set_option maxRecDepth 100000 in
theorem b_Mo_rush_15 {l : Launch} {Gr : zG} {n w : Nat} {d : Nat} {S : zS} {Q : Option Value → zS → Prop}   (k0 : Q (some (.int (-1))) S) : zW l Gr (zc n w) 168 M_Mo_rush (d + 1) 15 [none, none, none, none, none] [] S Q := by
  refine z_go (Gr := Gr) (zc := zc n w) (K := 168) oV_Mo_rush 1 (pc' := 16) (L' := [none, none, none, none, none]) (st' := [.int (-1)]) rfl ?_
  exact z_ret (v := (some (.int (-1)))) (oV_Mo_rush.1 (16, .ireturn) (ip_lk_mem rfl)) k0
set_option maxRecDepth 100000 in
theorem b_Mo_rush_4 {l : Launch} {Gr : zG} {n w : Nat} {d : Nat} {S : zS} {Q : Option Value → zS → Prop} {x1 : Int32} {x2 : Int32}  (k0 : x2 < 0 → zW l Gr (zc n w) 168 M_Mo_rush (d + 1) 15 [none, none, none, none, none] [] S Q) (k1 : ¬ x2 < 0 → zW l Gr (zc n w) 168 M_Mo_rush (d + 1) 8 [some (.ref 105), some (.int x1), some (.int x2), none, none] [] S Q) : zW l Gr (zc n w) 168 M_Mo_rush (d + 1) 4 [some (.ref 105), some (.int x1), some (.int x2), none, none] [] S Q := by
  refine z_go (Gr := Gr) (zc := zc n w) (K := 168) oV_Mo_rush 1 (pc' := 5) (L' := [some (.ref 105), some (.int x1), some (.int x2), none, none]) (st' := [.int x2]) rfl ?_
  exact z_iflt (Gr := Gr) (tgt := 15) (oV_Mo_rush.1 (5, .ifCond .lt 10) (ip_lk_mem rfl)) (by decide) (fun q => (z_forget (k0 q) trivial)) (fun q => (k1 q))
set_option maxRecDepth 100000 in
theorem b_Mo_rush_8 {l : Launch} {Gr : zG} {n w : Nat} {d : Nat} {S : zS} {Q : Option Value → zS → Prop} {x1 : Int32} {x2 : Int32}  (k0 : x1 ≤ 100000 → zW l Gr (zc n w) 168 M_Mo_rush (d + 1) 17 [some (.ref 105), some (.int x1), some (.int x2), none, none] [] S Q) (k1 : ¬ x1 ≤ 100000 → zW l Gr (zc n w) 168 M_Mo_rush (d + 1) 15 [none, none, none, none, none] [] S Q) : zW l Gr (zc n w) 168 M_Mo_rush (d + 1) 8 [some (.ref 105), some (.int x1), some (.int x2), none, none] [] S Q := by
  refine z_go (Gr := Gr) (zc := zc n w) (K := 168) oV_Mo_rush 2 (pc' := 12) (L' := [some (.ref 105), some (.int x1), some (.int x2), none, none]) (st' := [.int 100000, .int x1]) rfl ?_
  exact z_icle (Gr := Gr) (tgt := 17) (oV_Mo_rush.1 (12, .if_icmp .le 5) (ip_lk_mem rfl)) (by decide) (fun q => (k0 q)) (fun q => (z_forget (k1 q) trivial))
set_option maxRecDepth 100000 in
theorem b_Mo_rush_17 {l : Launch} {Gr : zG} {n w : Nat} {d : Nat} {S : zS} {Q : Option Value → zS → Prop} {x1 : Int32} {x2 : Int32}  (k0 : zW l Gr (zc n w) 168 M_Mo_rush (d + 1) 19 [some (.ref 105), some (.int x1), some (.int x2), some (.int 0), none] [] S Q) : zW l Gr (zc n w) 168 M_Mo_rush (d + 1) 17 [some (.ref 105), some (.int x1), some (.int x2), none, none] [] S Q := by
  refine z_go (Gr := Gr) (zc := zc n w) (K := 168) oV_Mo_rush 2 (pc' := 19) (L' := [some (.ref 105), some (.int x1), some (.int x2), some (.int 0), none]) (st' := []) rfl ?_
  exact k0
set_option maxRecDepth 100000 in
theorem b_Mo_rush_19 {l : Launch} {Gr : zG} {n w : Nat} {d : Nat} {S : zS} {Q : Option Value → zS → Prop} {x1 : Int32} {x2 : Int32} {x3 : Int32}  (k0 : x1 ≤ x3 → zW l Gr (zc n w) 168 M_Mo_rush (d + 1) 59 [none, none, none, some (.int x3), none] [] S Q) (k1 : ¬ x1 ≤ x3 → zW l Gr (zc n w) 168 M_Mo_rush (d + 1) 24 [some (.ref 105), some (.int x1), some (.int x2), some (.int x3), none] [] S Q) : zW l Gr (zc n w) 168 M_Mo_rush (d + 1) 19 [some (.ref 105), some (.int x1), some (.int x2), some (.int x3), none] [] S Q := by
  refine z_go (Gr := Gr) (zc := zc n w) (K := 168) oV_Mo_rush 2 (pc' := 21) (L' := [some (.ref 105), some (.int x1), some (.int x2), some (.int x3), none]) (st' := [.int x1, .int x3]) rfl ?_
  exact z_icge (Gr := Gr) (tgt := 59) (oV_Mo_rush.1 (21, .if_icmp .ge 38) (ip_lk_mem rfl)) (by decide) (fun q => (z_forget (k0 q) (And.intro rfl trivial))) (fun q => (k1 q))
set_option maxRecDepth 100000 in
theorem b_Mo_rush_59 {l : Launch} {Gr : zG} {n w : Nat} {d : Nat} {S : zS} {Q : Option Value → zS → Prop} {x3 : Int32}  (k0 : Q (some (.int x3)) S) : zW l Gr (zc n w) 168 M_Mo_rush (d + 1) 59 [none, none, none, some (.int x3), none] [] S Q := by
  refine z_go (Gr := Gr) (zc := zc n w) (K := 168) oV_Mo_rush 1 (pc' := 60) (L' := [none, none, none, some (.int x3), none]) (st' := [.int x3]) rfl ?_
  exact z_ret (v := (some (.int x3))) (oV_Mo_rush.1 (60, .ireturn) (ip_lk_mem rfl)) k0
set_option maxRecDepth 100000 in
theorem b_Mo_rush_24 {l : Launch} {Gr : zG} {n w : Nat} {d : Nat} {S : zS} {Q : Option Value → zS → Prop} {x1 : Int32} {x2 : Int32} {x3 : Int32}  (k0 : (S.1 73 139) ≤ 0 → zW l Gr (zc n w) 168 M_Mo_rush (d + 1) 59 [none, none, none, some (.int x3), none] [] S Q) (k1 : ¬ (S.1 73 139) ≤ 0 → zW l Gr (zc n w) 168 M_Mo_rush (d + 1) 31 [some (.ref 105), some (.int x1), some (.int x2), some (.int x3), none] [] S Q) : zW l Gr (zc n w) 168 M_Mo_rush (d + 1) 24 [some (.ref 105), some (.int x1), some (.int x2), some (.int x3), none] [] S Q := by
  refine z_go (Gr := Gr) (zc := zc n w) (K := 168) oV_Mo_rush 2 (pc' := 28) (L' := [some (.ref 105), some (.int x1), some (.int x2), some (.int x3), none]) (st' := [.int (S.1 73 139)]) rfl ?_
  exact z_ifle (Gr := Gr) (tgt := 59) (oV_Mo_rush.1 (28, .ifCond .le 31) (ip_lk_mem rfl)) (by decide) (fun q => (z_forget (k0 q) (And.intro rfl trivial))) (fun q => (k1 q))
set_option maxRecDepth 100000 in
theorem b_Mo_rush_31 {l : Launch} {Gr : zG} {n w : Nat} {d : Nat} {S : zS} {Q : Option Value → zS → Prop} {R : Int32 → zS → Prop} (hg : ip_gk (lg_tbl, vwCl, Gr)) {x1 : Int32} {x2 : Int32} {x3 : Int32} (g0 : ¬ ((S.1 73 139) : Int32) = 0) (k0 : zMi l Gr (zc n w) 168 M_Mo_takeMessage d [.ref 105, .int (x2 - x2 / (S.1 73 139) * (S.1 73 139))] S R) (k1 : ∀ v S', R v S' → zW l Gr (zc n w) 168 M_Mo_rush (d + 1) 41 [some (.ref 105), some (.int x1), some (.int x2), some (.int x3), none] [.int v] S' Q) : zW l Gr (zc n w) 168 M_Mo_rush (d + 1) 31 [some (.ref 105), some (.int x1), some (.int x2), some (.int x3), none] [] S Q := by
  refine z_go (Gr := Gr) (zc := zc n w) (K := 168) oV_Mo_rush 4 (pc' := 37) (L' := [some (.ref 105), some (.int x1), some (.int x2), some (.int x3), none]) (st' := [.int (S.1 73 139), .int x2, .ref 105]) rfl ?_
  refine z_irem (Gr := Gr) (oV_Mo_rush.1 (37, .irem) (ip_lk_mem rfl)) g0 ?_
  exact z_callV (Gr := Gr) hg.2.2.1 fT oM_Mo_takeMessage (oV_Mo_rush.1 (38, .invokevirtual 863) (ip_lk_mem rfl)) ⟨tt_11 _ (List.mem_of_getElem? (i := 19) rfl) rfl, tt_11 _ (List.mem_of_getElem? (i := 21) rfl) rfl, fS_Mo_takeMessage⟩ (c := 73) (ci := 12) (As := [.int (x2 - x2 / (S.1 73 139) * (S.1 73 139))]) rfl rfl rfl (by decide) rfl (Nat.le_of_ble_eq_true rfl) k0 (fun v S' q => by obtain ⟨x, rfl, q⟩ := q; exact (k1 _ _ q))
set_option maxRecDepth 100000 in
theorem b_Mo_rush_41 {l : Launch} {Gr : zG} {n w : Nat} {d : Nat} {S : zS} {Q : Option Value → zS → Prop} {x1 : Int32} {x2 : Int32} {x3 : Int32} {s0 : Int32}  (k0 : s0 < 0 → zW l Gr (zc n w) 168 M_Mo_rush (d + 1) 53 [some (.ref 105), some (.int x1), some (.int x2), none, none] [.int x3] S Q) (k1 : ¬ s0 < 0 → zW l Gr (zc n w) 168 M_Mo_rush (d + 1) 49 [some (.ref 105), some (.int x1), some (.int x2), none, none] [.int x3] S Q) : zW l Gr (zc n w) 168 M_Mo_rush (d + 1) 41 [some (.ref 105), some (.int x1), some (.int x2), some (.int x3), none] [.int s0] S Q := by
  refine z_go (Gr := Gr) (zc := zc n w) (K := 168) oV_Mo_rush 3 (pc' := 46) (L' := [some (.ref 105), some (.int x1), some (.int x2), some (.int x3), some (.int s0)]) (st' := [.int s0, .int x3]) rfl ?_
  exact z_iflt (Gr := Gr) (tgt := 53) (oV_Mo_rush.1 (46, .ifCond .lt 7) (ip_lk_mem rfl)) (by decide) (fun q => (z_forget (k0 q) (And.intro rfl (And.intro rfl (And.intro rfl trivial))))) (fun q => (z_forget (k1 q) (And.intro rfl (And.intro rfl (And.intro rfl trivial)))))
set_option maxRecDepth 100000 in
theorem b_Mo_rush_53 {l : Launch} {Gr : zG} {n w : Nat} {d : Nat} {S : zS} {Q : Option Value → zS → Prop} {x1 : Int32} {x2 : Int32} {s0 : Int32}  (k0 : zW l Gr (zc n w) 168 M_Mo_rush (d + 1) 54 [some (.ref 105), some (.int x1), some (.int x2), none, none] [.int 0, .int s0] S Q) : zW l Gr (zc n w) 168 M_Mo_rush (d + 1) 53 [some (.ref 105), some (.int x1), some (.int x2), none, none] [.int s0] S Q := by
  refine z_go (Gr := Gr) (zc := zc n w) (K := 168) oV_Mo_rush 1 (pc' := 54) (L' := [some (.ref 105), some (.int x1), some (.int x2), none, none]) (st' := [.int 0, .int s0]) rfl ?_
  exact k0
set_option maxRecDepth 100000 in
theorem b_Mo_rush_49 {l : Launch} {Gr : zG} {n w : Nat} {d : Nat} {S : zS} {Q : Option Value → zS → Prop} {x1 : Int32} {x2 : Int32} {s0 : Int32}  (k0 : zW l Gr (zc n w) 168 M_Mo_rush (d + 1) 54 [some (.ref 105), some (.int x1), some (.int x2), none, none] [.int 1, .int s0] S Q) : zW l Gr (zc n w) 168 M_Mo_rush (d + 1) 49 [some (.ref 105), some (.int x1), some (.int x2), none, none] [.int s0] S Q := by
  refine z_go (Gr := Gr) (zc := zc n w) (K := 168) oV_Mo_rush 2 (pc' := 54) (L' := [some (.ref 105), some (.int x1), some (.int x2), none, none]) (st' := [.int 1, .int s0]) rfl ?_
  exact k0
set_option maxRecDepth 100000 in
theorem b_Mo_rush_54 {l : Launch} {Gr : zG} {n w : Nat} {d : Nat} {S : zS} {Q : Option Value → zS → Prop} {x1 : Int32} {x2 : Int32} {s0 : Int32} {s1 : Int32}  (k0 : zW l Gr (zc n w) 168 M_Mo_rush (d + 1) 19 [some (.ref 105), some (.int x1), some (.int x2), some (.int (s1 + s0)), none] [] S Q) : zW l Gr (zc n w) 168 M_Mo_rush (d + 1) 54 [some (.ref 105), some (.int x1), some (.int x2), none, none] [.int s0, .int s1] S Q := by
  refine z_go (Gr := Gr) (zc := zc n w) (K := 168) oV_Mo_rush 3 (pc' := 19) (L' := [some (.ref 105), some (.int x1), some (.int x2), some (.int (s1 + s0)), none]) (st' := []) rfl ?_
  exact k0
theorem e_Mo_rush {l : Launch} {Gr : zG} {n w : Nat} {d : Nat} {S : zS} {R : Int32 → zS → Prop} {x1 : Int32} {x2 : Int32} (k : zW l Gr (zc n w) 168 M_Mo_rush (d + 1) 0 [some (.ref 105), some (.int x1), some (.int x2), none, none] [] S (fun v S' => ∃ x, v = some (.int x) ∧ R x S')) : zMi l Gr (zc n w) 168 M_Mo_rush (d + 1) [.ref 105, .int x1, .int x2] S R := z_mi oM_Mo_rush rfl (Nat.le_of_ble_eq_true rfl) k
set_option maxRecDepth 100000 in
theorem b_Mo_party_0 {l : Launch} {Gr : zG} {n w : Nat} {d : Nat} {S : zS} {Q : Option Value → zS → Prop} {x1 : Int32} {x2 : Int32}  (k0 : (S.1 73 124) = 0 → zW l Gr (zc n w) 168 M_Mo_party (d + 1) 28 [none, none, none] [] S Q) (k1 : ¬ (S.1 73 124) = 0 → zW l Gr (zc n w) 168 M_Mo_party (d + 1) 7 [some (.ref 105), some (.int x1), some (.int x2)] [] S Q) : zW l Gr (zc n w) 168 M_Mo_party (d + 1) 0 [some (.ref 105), some (.int x1), some (.int x2)] [] S Q := by
  refine z_go (Gr := Gr) (zc := zc n w) (K := 168) oV_Mo_party 2 (pc' := 4) (L' := [some (.ref 105), some (.int x1), some (.int x2)]) (st' := [.int (S.1 73 124)]) rfl ?_
  exact z_ifeq (Gr := Gr) (tgt := 28) (oV_Mo_party.1 (4, .ifCond .eq 24) (ip_lk_mem rfl)) (by decide) (fun q => (z_forget (k0 q) trivial)) (fun q => (k1 q))
set_option maxRecDepth 100000 in
theorem b_Mo_party_28 {l : Launch} {Gr : zG} {n w : Nat} {d : Nat} {S : zS} {Q : Option Value → zS → Prop}   (k0 : Q (some (.int (-1))) S) : zW l Gr (zc n w) 168 M_Mo_party (d + 1) 28 [none, none, none] [] S Q := by
  refine z_go (Gr := Gr) (zc := zc n w) (K := 168) oV_Mo_party 1 (pc' := 29) (L' := [none, none, none]) (st' := [.int (-1)]) rfl ?_
  exact z_ret (v := (some (.int (-1)))) (oV_Mo_party.1 (29, .ireturn) (ip_lk_mem rfl)) k0
set_option maxRecDepth 100000 in
theorem b_Mo_party_7 {l : Launch} {Gr : zG} {n w : Nat} {d : Nat} {S : zS} {Q : Option Value → zS → Prop} {x1 : Int32} {x2 : Int32}  (k0 : x1 < 0 → zW l Gr (zc n w) 168 M_Mo_party (d + 1) 28 [none, none, none] [] S Q) (k1 : ¬ x1 < 0 → zW l Gr (zc n w) 168 M_Mo_party (d + 1) 11 [some (.ref 105), some (.int x1), some (.int x2)] [] S Q) : zW l Gr (zc n w) 168 M_Mo_party (d + 1) 7 [some (.ref 105), some (.int x1), some (.int x2)] [] S Q := by
  refine z_go (Gr := Gr) (zc := zc n w) (K := 168) oV_Mo_party 1 (pc' := 8) (L' := [some (.ref 105), some (.int x1), some (.int x2)]) (st' := [.int x1]) rfl ?_
  exact z_iflt (Gr := Gr) (tgt := 28) (oV_Mo_party.1 (8, .ifCond .lt 20) (ip_lk_mem rfl)) (by decide) (fun q => (z_forget (k0 q) trivial)) (fun q => (k1 q))
set_option maxRecDepth 100000 in
theorem b_Mo_party_11 {l : Launch} {Gr : zG} {n w : Nat} {d : Nat} {S : zS} {Q : Option Value → zS → Prop} {x1 : Int32} {x2 : Int32}  (k0 : (nI n) ≤ x1 → zW l Gr (zc n w) 168 M_Mo_party (d + 1) 28 [none, none, none] [] S Q) (k1 : ¬ (nI n) ≤ x1 → zW l Gr (zc n w) 168 M_Mo_party (d + 1) 19 [some (.ref 105), some (.int x1), some (.int x2)] [] S Q) : zW l Gr (zc n w) 168 M_Mo_party (d + 1) 11 [some (.ref 105), some (.int x1), some (.int x2)] [] S Q := by
  refine z_go (Gr := Gr) (zc := zc n w) (K := 168) oV_Mo_party 3 (pc' := 16) (L' := [some (.ref 105), some (.int x1), some (.int x2)]) (st' := [.int (nI n), .int x1]) rfl ?_
  exact z_icge (Gr := Gr) (tgt := 28) (oV_Mo_party.1 (16, .if_icmp .ge 12) (ip_lk_mem rfl)) (by decide) (fun q => (z_forget (k0 q) trivial)) (fun q => (k1 q))
set_option maxRecDepth 100000 in
theorem b_Mo_party_19 {l : Launch} {Gr : zG} {n w : Nat} {d : Nat} {S : zS} {Q : Option Value → zS → Prop} {x1 : Int32} {x2 : Int32}  (k0 : x2 < 0 → zW l Gr (zc n w) 168 M_Mo_party (d + 1) 28 [none, none, none] [] S Q) (k1 : ¬ x2 < 0 → zW l Gr (zc n w) 168 M_Mo_party (d + 1) 23 [some (.ref 105), some (.int x1), some (.int x2)] [] S Q) : zW l Gr (zc n w) 168 M_Mo_party (d + 1) 19 [some (.ref 105), some (.int x1), some (.int x2)] [] S Q := by
  refine z_go (Gr := Gr) (zc := zc n w) (K := 168) oV_Mo_party 1 (pc' := 20) (L' := [some (.ref 105), some (.int x1), some (.int x2)]) (st' := [.int x2]) rfl ?_
  exact z_iflt (Gr := Gr) (tgt := 28) (oV_Mo_party.1 (20, .ifCond .lt 8) (ip_lk_mem rfl)) (by decide) (fun q => (z_forget (k0 q) trivial)) (fun q => (k1 q))
set_option maxRecDepth 100000 in
theorem b_Mo_party_23 {l : Launch} {Gr : zG} {n w : Nat} {d : Nat} {S : zS} {Q : Option Value → zS → Prop} {x1 : Int32} {x2 : Int32}  (k0 : x2 ≤ 2 → zW l Gr (zc n w) 168 M_Mo_party (d + 1) 30 [some (.ref 105), some (.int x1), some (.int x2)] [] S Q) (k1 : ¬ x2 ≤ 2 → zW l Gr (zc n w) 168 M_Mo_party (d + 1) 28 [none, none, none] [] S Q) : zW l Gr (zc n w) 168 M_Mo_party (d + 1) 23 [some (.ref 105), some (.int x1), some (.int x2)] [] S Q := by
  refine z_go (Gr := Gr) (zc := zc n w) (K := 168) oV_Mo_party 2 (pc' := 25) (L' := [some (.ref 105), some (.int x1), some (.int x2)]) (st' := [.int 2, .int x2]) rfl ?_
  exact z_icle (Gr := Gr) (tgt := 30) (oV_Mo_party.1 (25, .if_icmp .le 5) (ip_lk_mem rfl)) (by decide) (fun q => (k0 q)) (fun q => (z_forget (k1 q) trivial))
set_option maxRecDepth 100000 in
theorem b_Mo_party_30 {l : Launch} {Gr : zG} {n w : Nat} {d : Nat} {S : zS} {Q : Option Value → zS → Prop} {x1 : Int32} {x2 : Int32}  (k0 : ¬ x2 = 0 → zW l Gr (zc n w) 168 M_Mo_party (d + 1) 43 [some (.ref 105), some (.int x1), some (.int x2)] [] S Q) (k1 : x2 = 0 → zW l Gr (zc n w) 168 M_Mo_party (d + 1) 34 [some (.ref 105), some (.int x1), none] [] S Q) : zW l Gr (zc n w) 168 M_Mo_party (d + 1) 30 [some (.ref 105), some (.int x1), some (.int x2)] [] S Q := by
  refine z_go (Gr := Gr) (zc := zc n w) (K := 168) oV_Mo_party 1 (pc' := 31) (L' := [some (.ref 105), some (.int x1), some (.int x2)]) (st' := [.int x2]) rfl ?_
  exact z_ifne (Gr := Gr) (tgt := 43) (oV_Mo_party.1 (31, .ifCond .ne 12) (ip_lk_mem rfl)) (by decide) (fun q => (k0 q)) (fun q => (z_forget (k1 q) (And.intro rfl (And.intro rfl trivial))))
set_option maxRecDepth 100000 in
theorem b_Mo_party_43 {l : Launch} {Gr : zG} {n w : Nat} {d : Nat} {S : zS} {Q : Option Value → zS → Prop} {x1 : Int32} {x2 : Int32}  (k0 : ¬ x2 = 1 → zW l Gr (zc n w) 168 M_Mo_party (d + 1) 57 [some (.ref 105), some (.int x1), none] [] S Q) (k1 : x2 = 1 → zW l Gr (zc n w) 168 M_Mo_party (d + 1) 48 [some (.ref 105), some (.int x1), none] [] S Q) : zW l Gr (zc n w) 168 M_Mo_party (d + 1) 43 [some (.ref 105), some (.int x1), some (.int x2)] [] S Q := by
  refine z_go (Gr := Gr) (zc := zc n w) (K := 168) oV_Mo_party 2 (pc' := 45) (L' := [some (.ref 105), some (.int x1), some (.int x2)]) (st' := [.int 1, .int x2]) rfl ?_
  exact z_icne (Gr := Gr) (tgt := 57) (oV_Mo_party.1 (45, .if_icmp .ne 12) (ip_lk_mem rfl)) (by decide) (fun q => (z_forget (k0 q) (And.intro rfl (And.intro rfl trivial)))) (fun q => (z_forget (k1 q) (And.intro rfl (And.intro rfl trivial))))
set_option maxRecDepth 100000 in
theorem b_Mo_party_34 {l : Launch} {Gr : zG} {n w : Nat} {d : Nat} {S : zS} {Q : Option Value → zS → Prop} {x1 : Int32} (g0 : vp_in x1 16) (k0 : zW l Gr (zc n w) 168 M_Mo_party (d + 1) 62 [none, none, none] [.int (S.1 157 ((x1 : Int32).toNatClampNeg))] S Q) : zW l Gr (zc n w) 168 M_Mo_party (d + 1) 34 [some (.ref 105), some (.int x1), none] [] S Q := by
  refine z_go (Gr := Gr) (zc := zc n w) (K := 168) oV_Mo_party 3 (pc' := 39) (L' := [some (.ref 105), some (.int x1), none]) (st' := [.int x1, .ref 189]) rfl ?_
  refine z_iald (Gr := Gr) (c := 157) (oV_Mo_party.1 (39, .iaload) (ip_lk_mem rfl)) (by decide) rfl g0 ?_
  refine z_go (Gr := Gr) (zc := zc n w) (K := 168) oV_Mo_party 1 (pc' := 62) (L' := [some (.ref 105), some (.int x1), none]) (st' := [.int (S.1 157 ((x1 : Int32).toNatClampNeg))]) rfl ?_
  exact (z_forget k0 trivial)
set_option maxRecDepth 100000 in
theorem b_Mo_party_57 {l : Launch} {Gr : zG} {n w : Nat} {d : Nat} {S : zS} {Q : Option Value → zS → Prop} {R : Int32 → zS → Prop} (hg : ip_gk (lg_tbl, vwCl, Gr)) {x1 : Int32}  (k0 : zMi l Gr (zc n w) 168 M_Mo_viewBits d [.ref 105, .int x1] S R) (k1 : ∀ v S', R v S' → zW l Gr (zc n w) 168 M_Mo_party (d + 1) 62 [none, none, none] [.int v] S' Q) : zW l Gr (zc n w) 168 M_Mo_party (d + 1) 57 [some (.ref 105), some (.int x1), none] [] S Q := by
  refine z_go (Gr := Gr) (zc := zc n w) (K := 168) oV_Mo_party 2 (pc' := 59) (L' := [some (.ref 105), some (.int x1), none]) (st' := [.int x1, .ref 105]) rfl ?_
  exact z_callV (Gr := Gr) hg.2.2.1 fT oM_Mo_viewBits (oV_Mo_party.1 (59, .invokevirtual 866) (ip_lk_mem rfl)) ⟨tt_11 _ (List.mem_of_getElem? (i := 31) rfl) rfl, tt_11 _ (List.mem_of_getElem? (i := 33) rfl) rfl, fS_Mo_viewBits⟩ (c := 73) (ci := 12) (As := [.int x1]) rfl rfl rfl (by decide) rfl (Nat.le_of_ble_eq_true rfl) k0 (fun v S' q => by obtain ⟨x, rfl, q⟩ := q; exact (z_forget (k1 _ _ q) trivial))
set_option maxRecDepth 100000 in
theorem b_Mo_party_48 {l : Launch} {Gr : zG} {n w : Nat} {d : Nat} {S : zS} {Q : Option Value → zS → Prop} {x1 : Int32} (g0 : vp_in x1 16) (k0 : zW l Gr (zc n w) 168 M_Mo_party (d + 1) 62 [none, none, none] [.int (S.1 160 ((x1 : Int32).toNatClampNeg))] S Q) : zW l Gr (zc n w) 168 M_Mo_party (d + 1) 48 [some (.ref 105), some (.int x1), none] [] S Q := by
  refine z_go (Gr := Gr) (zc := zc n w) (K := 168) oV_Mo_party 3 (pc' := 53) (L' := [some (.ref 105), some (.int x1), none]) (st' := [.int x1, .ref 192]) rfl ?_
  refine z_iald (Gr := Gr) (c := 160) (oV_Mo_party.1 (53, .iaload) (ip_lk_mem rfl)) (by decide) rfl g0 ?_
  refine z_go (Gr := Gr) (zc := zc n w) (K := 168) oV_Mo_party 1 (pc' := 62) (L' := [some (.ref 105), some (.int x1), none]) (st' := [.int (S.1 160 ((x1 : Int32).toNatClampNeg))]) rfl ?_
  exact (z_forget k0 trivial)
set_option maxRecDepth 100000 in
theorem b_Mo_party_62 {l : Launch} {Gr : zG} {n w : Nat} {d : Nat} {S : zS} {Q : Option Value → zS → Prop} {s0 : Int32}  (k0 : Q (some (.int s0)) S) : zW l Gr (zc n w) 168 M_Mo_party (d + 1) 62 [none, none, none] [.int s0] S Q := by
  exact z_ret (v := (some (.int s0))) (oV_Mo_party.1 (62, .ireturn) (ip_lk_mem rfl)) k0
theorem e_Mo_party {l : Launch} {Gr : zG} {n w : Nat} {d : Nat} {S : zS} {R : Int32 → zS → Prop} {x1 : Int32} {x2 : Int32} (k : zW l Gr (zc n w) 168 M_Mo_party (d + 1) 0 [some (.ref 105), some (.int x1), some (.int x2)] [] S (fun v S' => ∃ x, v = some (.int x) ∧ R x S')) : zMi l Gr (zc n w) 168 M_Mo_party (d + 1) [.ref 105, .int x1, .int x2] S R := z_mi oM_Mo_party rfl (Nat.le_of_ble_eq_true rfl) k
