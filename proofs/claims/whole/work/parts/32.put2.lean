/-! two fields of one object written in a row: only behind both must there be a store -/
theorem z_put2 {l : Launch} {Gr : zG} {zc : zC} {K : Nat} {M : ip_M} {d : Nat} {S : zS} {Q : Option Value → zS → Prop} {V : ip_V} {L : zL} {st : List Value} {idx idx2 ci k k2 c m pc pc2 : Nat} {fs : List Value} {ty ty2 : FieldType} {x y : Int32} (hV : ip_okV lg_tbl vwCl M V) (hd : decode M.2.1 pc = .ok (.putfield idx, 3)) (hF : ip_F lg_tbl vwCl M.1.cls idx ci k ty false) (hd2 : decode M.2.1 pc2 = .ok (.putfield idx2, 3)) (hF2 : ip_F lg_tbl vwCl M.1.cls idx2 ci k2 ty2 false) (hc : c < K) (hz : zc (S.1 c) (S.2 c) c = .inr (ci, fs)) (hz2 : zc (upd (upd (S.1 c) k x) k2 y) (S.2 c) c = .inr (ci, (fs.set k (.int x)).set k2 (.int y))) (hfl : k < fs.length) (hfl2 : k2 < fs.length) (hfit : fits ty (.int x) = true) (hfit2 : fits ty2 (.int y) = true)
    (hs : ∀ h, ip_sts V M.2.2.1 false m (pc + 3, L, st, h) = some (pc2, L, .int y :: .ref (c + 32) :: st, h)) (kk : zW l Gr zc K M d (pc2 + 3) L st (zi (zi S c k x) c k2 y) Q) : zW l Gr zc K M d pc L (.int x :: .ref (c + 32) :: st) S Q := by
  have e : ip_hs (ip_hs (zP zc K S) (c + 32) (.inr (ci, fs.set k (.int x)))) (c + 32) (.inr (ci, (fs.set k (.int x)).set k2 (.int y))) = zP zc K (zi (zi S c k x) c k2 y) := by
    have e1 : zi (zi S c k x) c k2 y = zI S c (upd (upd (S.1 c) k x) k2 y) := by
      refine Prod.ext (funext fun q => ?_) rfl
      show (if q = c then upd ((zi S c k x).1 c) k2 y else (zi S c k x).1 q) = (if q = c then upd (upd (S.1 c) k x) k2 y else S.1 q)
      have e2 : (zi S c k x).1 c = upd (S.1 c) k x := by
        show (if c = c then upd (S.1 c) k x else S.1 c) = _
        rw [if_pos rfl]
      by_cases z : q = c
      · rw [if_pos z, if_pos z, e2]
      · rw [if_neg z, if_neg z]
        show (if q = c then upd (S.1 c) k x else S.1 q) = _
        rw [if_neg z]
    rw [e1, ← z_hsI hc, ← hz2.symm]
    unfold ip_hs
    rw [List.set_set]
  refine z_step (fun r h => ip_putf (G := (lg_tbl, vwCl, Gr)) hd hF (by rw [z_h hc, hz]) hfl hfit (ip_go (G := (lg_tbl, vwCl, Gr)) (ini := false) hV (fun q => absurd q (by decide)) m (hs _) (ip_putf (G := (lg_tbl, vwCl, Gr)) (fs := fs.set k (.int x)) hd2 hF2 ?_ (by rw [List.length_set]; exact hfl2) hfit2 (by rw [e]; exact h)))) kk
  unfold ip_h ip_hs
  rw [if_neg (by omega), Nat.add_sub_cancel, List.getElem?_set_self (by unfold zP; rw [List.length_map, List.length_range]; exact hc)]
