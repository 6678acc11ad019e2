/-! the class's reader of EXPRs, beside the reference's -/
def FR (l : Launch) (Gr : zG) (n w d : Nat) (b : Nat → Int32) (t : Nat) (S S' : zS) (p i ws dp : Nat) : Prop := (∃ p' i', FOK l Gr n w d b t S S' p i ws dp p' i') ∨ ∃ f pl, FBD l Gr n w d b t S S' p dp f pl
def ER (l : Launch) (Gr : zG) (n w d : Nat) (b : Nat → Int32) (t : Nat) (S S' : zS) (p i ws dp : Nat) : Prop := (∃ p' i', EOK l Gr n w d b t S S' p i ws dp p' i') ∨ ∃ f pl, EBD l Gr n w d b t S S' p dp f pl
def KE (l : Launch) (Gr : zG) (n w d : Nat) (b : Nat → Int32) (t dp D : Nat) : Prop := ∀ S p i ws, CS b t p i ws S → i ≤ p → ws ≤ 10 * dp → zMv l Gr (zc n w) 168 M_Reader_readExpr D [.ref 66, .int (nI dp)] S (fun S' => ER l Gr n w d b t S S' p i ws dp)
def KF (l : Launch) (Gr : zG) (n w d : Nat) (b : Nat → Int32) (t dp D : Nat) : Prop := ∀ S p i ws, CS b t p i ws S → i ≤ p → ws ≤ 10 * dp + 10 → zMv l Gr (zc n w) 168 M_Reader_readFactor D [.ref 66, .int (nI dp)] S (fun S' => FR l Gr n w d b t S S' p i ws dp)
section RD1
variable {l : Launch} {Gr : zG} {n w : Nat} {d : Nat} {b : Nat → Int32} {t p i ws dp p' i' q j m N X u : Nat} {S S' T T' : zS}
theorem ZF_tr {T0 : zS} {f pl : Int32} (rx : RX l Gr n w d T 1 T0 1) (mk : MK b t T T0 0 0) (h : ZF l Gr n w d b t T0 f pl) : ZF l Gr n w d b t T f pl := by
  obtain ⟨T', ex, h7, h8, hK⟩ := h
  exact ⟨T', RX_EX rx ex, h7, h8, MK_tr mk hK⟩
theorem CB_F {f : Int32} {x : Int32} (hf : fz f) {S1 : zS} (h : CK S S1 0 0) : CB S (cF S1 f x) f x := ⟨hf, cF_f.1, cF_f.2, CK_tr h CK_cF⟩
theorem CB_tr {S1 : zS} {f pl : Int32} (h : CK S S1 0 0) (hc : CB S1 S' f pl) : CB S S' f pl := ⟨hc.1, hc.2.1, hc.2.2.1, CK_tr h hc.2.2.2⟩
theorem w_facN (h : ¬ S.1 3 5 = 0) {D : Nat} : zMv l Gr (zc n w) 168 M_Reader_readFactor (D + 1) [.ref 66, .int (nI dp)] S (fun S' => S' = S) :=
  e_Reader_readFactor (b_Reader_readFactor_0 (fun z => absurd z h) (fun _ => b_Reader_readFactor_10 ⟨rfl, rfl⟩))
theorem w_choN (hg : ip_gk (lg_tbl, vwCl, Gr)) (h : ¬ S.1 3 5 = 0) {D : Nat} : zMv l Gr (zc n w) 168 M_Reader_readChoice (D + 2) [.ref 66, .int (nI dp)] S (fun S' => S' = S) :=
  e_Reader_readChoice (b_Reader_readChoice_0 hg (w_facN h) (fun S1 e => by
    rw [e]
    exact b_Reader_readChoice_10 (b_Reader_readChoice_12 (fun _ => b_Reader_readChoice_141 ⟨rfl, rfl⟩) (fun _ => b_Reader_readChoice_19 (fun _ => b_Reader_readChoice_141 ⟨rfl, rfl⟩) (fun z => absurd z h)))))
theorem w_exprN (hg : ip_gk (lg_tbl, vwCl, Gr)) (h : ¬ S.1 3 5 = 0) {D : Nat} : zMv l Gr (zc n w) 168 M_Reader_readExpr (D + 3) [.ref 66, .int (nI dp)] S (fun S' => S' = S) :=
  e_Reader_readExpr (b_Reader_readExpr_0 hg (w_choN hg h) (fun S1 e => by
    rw [e]
    exact b_Reader_readExpr_5 (fun _ => b_Reader_readExpr_27 ⟨rfl, rfl⟩) (fun z => absurd z h)))
/-- [EXPR] : the head's number is x -/
theorem w_index (hg : ip_gk (lg_tbl, vwCl, Gr)) (ho : ip_old (lg_tbl, vwCl, Gr)) {D : Nat} (hD : 6 ≤ D) (hdp : dp ≤ 30) (IH : dp < 30 → KE l Gr n w d b t (dp + 1) D) {x : Int32} (h : CS b t p i ws S) (hi : i ≤ p) (hws : ws ≤ 10 * dp + 10) (h91 : tk b t p = 91) : zMv l Gr (zc n w) 168 M_Reader_readIndex (D + 1) [.ref 66, .int x, .int (nI dp)] S (fun S' =>
    (dp = 30 ∧ S' = cF S 3 (nI p)) ∨
    (dp < 30 ∧ ∃ f pl, EBD l Gr n w d b t (wS b t (np b t p) S) S' (np b t p) (dp + 1) f pl) ∨
    (dp < 30 ∧ ∃ S2 p2 i2, EOK l Gr n w d b t (wS b t (np b t p) S) S2 (np b t p) i ws (dp + 1) p2 i2 ∧ ((tk b t p2 = 93 ∧ S' = wS b t (np b t p2) (cA S2 i2 26 x (nI (np b t p)) 0)) ∨ (¬ tk b t p2 = 93 ∧ S' = cF (cA S2 i2 26 x (nI (np b t p)) 0) 1 (nI p2))))) := by
  obtain ⟨e, rfl⟩ : ∃ e, D = e + 6 := ⟨D - 6, by omega⟩
  have hpt : p < t := tk_pos (by rw [h91]; decide)
  have hnp := np_gt (b := b) hpt
  refine e_Reader_readIndex (b_Reader_readIndex_0 hg (w_opens hg ho hdp h) (fun v S1 hv => ?_))
  rcases hv with ⟨-, hd, ev, e1⟩ | ⟨-, hd, ev, e1⟩ | ⟨hb, -⟩
  · rw [ev, e1]
    have h1 := CS_wS h
    refine b_Reader_readIndex_7 (fun _ => ?_) (fun z => absurd z (by decide))
    refine b_Reader_readIndex_11 hg (by rw [nI_1]; exact IH hd _ _ _ _ h1 (by omega) (by omega)) (fun S2 hE => ?_)
    rw [h1.2.2.1]
    rcases hE with ⟨p2, i2, hE⟩ | ⟨f, pl, hE⟩
    · have h2 := hE.1
      have hp2 := h2.2.2.2.2.2.2.2.2.1.1
      have ht := h2.2.2.2.2.2.2.2.2.2
      have hlt := hE.2.2.1
      have hbd := hE.2.2.2.1
      refine b_Reader_readIndex_26 hg (w_add hg h2.2.2.2.2.2.2.1 h2.2.2.2.2.2.1 (by omega)) (fun v S3 hv => ?_)
      rw [hv.2]
      refine b_Reader_readIndex_37 hg (w_expect hg ho (CS_cA h2)) (fun S4 h4 => b_Reader_readIndex_44 ⟨rfl, Or.inr (Or.inr ⟨hd, S2, p2, i2, hE, h4⟩)⟩)
    · have f1 : ¬ S2.1 3 5 = 0 := by rw [hE.1.2.1]; exact nz hE.1.1
      refine b_Reader_readIndex_26 hg (w_addN hg f1) (fun v S3 hv => ?_)
      rw [hv.2]
      refine b_Reader_readIndex_37 hg (w_expectN hg f1) (fun S4 e4 => b_Reader_readIndex_44 ⟨rfl, Or.inr (Or.inl ⟨hd, f, pl, ?_⟩)⟩)
      rw [e4]
      exact hE
  · rw [ev, e1]
    exact b_Reader_readIndex_7 (fun z => absurd rfl z) (fun _ => b_Reader_readIndex_10 ⟨rfl, Or.inl ⟨hd, rfl⟩⟩)
  · exact absurd h91 hb
end RD1
