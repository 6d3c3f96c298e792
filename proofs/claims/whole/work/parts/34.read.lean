theorem jup_jup {h : jH} {r : Nat} {a b : Nat × List Value} : jup (jup h r a) r b = jup h r b := by
  funext k
  by_cases e : k = r
  · subst e; rw [jup_same, jup_same]
  · rw [jup_ne e, jup_ne e, jup_ne e]
theorem t_swap {l : Launch} {G : jG} {d : Nat} {σ : cS} {P : jO → cS → Prop} (hw : wf σ) (kk : CJ jCls jown l G (Yx mX6_read) d 1 6 120 [some (.ref 1), some (.ref σ.2.2)] [] (csw σ) P) : CJ jCls jown l G (Yx mX6_read) d 1 6 102 [some (.ref 1), none] [] σ P := by
  refine C_aload_n dX6_read_102 rfl ?_
  refine C_get dX6_read_103 f_X6_37 (fun h hc => ⟨_, hc.2.2.2.2.2.2.2, rfl⟩) ?_
  refine C_astore_n dX6_read_106 (by decide) rfl ?_
  simp only [List.set_cons_zero, List.set_cons_succ, jfin0, jfin1, jfin2, jfin3]
  refine C_aload_n dX6_read_107 rfl ?_
  refine C_aload_n dX6_read_108 rfl ?_
  refine C_get dX6_read_109 f_X6_41 (fun h hc => ⟨_, hc.2.2.2.2.2.2.2, rfl⟩) ?_
  intro n h0 h hi hf
  refine J_put dX6_read_112 f_X6_37 hi.2.2.2.2.2.2.2 (Nat.le_of_ble_eq_true rfl) jfit_r ?_
  refine J_aload_n dX6_read_115 rfl ?_
  refine J_aload_n dX6_read_116 rfl ?_
  refine J_put dX6_read_117 f_X6_41 jup_same (Nat.le_of_ble_eq_true rfl) jfit_r ?_
  rw [jup_jup]
  refine kk n h0 _ (hi.desk rfl (fun q j _ => rfl) ?_) (fun q hq => (jup_ne (fun e => hq (by rw [e]; exact ownD kd1))).trans (hf q hq))
  have e : 54 - (54 - σ.2.2) = σ.2.2 := by rcases hw.2.2.2 with e | e <;> rw [e]
  simp [csw, e]
def c_readI  : Nat → Int → cS → cS
  | 0, _, σ => σ
  | fu + 1, j, σ => (if (c_messageCount σ (54 - σ.2.2)) ≤ j then σ else (if 0 ≤ (c_typeOf σ (54 - σ.2.2) j) ∧ (c_typeOf σ (54 - σ.2.2) j) < 4 then (c_readI  fu (j + 1) (c_judgeMessage σ (54 - σ.2.2) j (72 + 11 * Int.toNat (c_typeOf σ (54 - σ.2.2) j)))) else (c_readI  fu (j + 1) (c_judgeMessageN σ (54 - σ.2.2) j))))
theorem t_readI {l : Launch} {G : jG} {d bc bs : Nat} {P : jO → cS → Prop} {σ : cS}  {j : Int} (hw : wf σ) (hd : 6 ≤ d)  (fu : Nat) (hj : 0 ≤ j ∧ j ≤ 2001) (hm : 2001 - j < (fu : Int)) (kk : CJ jCls jown l G (Yx mX6_read) d bc bs 102 [some (.ref 1), none] [] (c_readI  fu j σ) P) : CJ jCls jown l G (Yx mX6_read) d bc bs 65 [some (.ref 1), some (vi j)] [] σ P := by
  induction fu generalizing σ j with
  | zero => exact absurd hm (by omega)
  | succ fu ih =>
    refine C_iload_n dX6_read_65 rfl ?_
    refine C_aload_n dX6_read_66 rfl ?_
    refine C_get dX6_read_67 f_X6_41 (fun h hc => ⟨_, hc.2.2.2.2.2.2.2, rfl⟩) ?_
    refine D_callV (As := []) (d' := 1) (t_messageCount hw (Nat.le_refl _) hw.fresh) dX6_read_70 v_X6_145 (fun h hc => ⟨_, hc.2.2.1 _ hw.fresh⟩) rfl (Nat.le_of_ble_eq_true rfl) (by omega) (Nat.le_of_ble_eq_true rfl) ?_
    simp only [Option.toList, List.nil_append, List.cons_append]
    have r_70 := r_messageCount (e := 54 - σ.2.2) hw hw.fresh
    refine C_icmp_ge (tgt := 102) dX6_read_73 (by decide) (by omega) (by omega) (fun c_73 => ?_) (fun c_73 => ?_)
    · rw [c_readI, if_pos (by omega)] at kk
      refine CJ.mono (ls' := [some (.ref 1), none]) (lsub_ok (by repeat (first | exact trivial | refine ⟨rfl, ?_⟩))) (fun _ _ q => q) ?_
      exact kk
    · refine C_aload_n dX6_read_76 rfl ?_
      refine C_get dX6_read_77 f_X6_41 (fun h hc => ⟨_, hc.2.2.2.2.2.2.2, rfl⟩) ?_
      refine C_iload_n dX6_read_80 rfl ?_
      refine C_aload_n dX6_read_81 rfl ?_
      refine C_aload_n dX6_read_82 rfl ?_
      refine C_get dX6_read_83 f_X6_41 (fun h hc => ⟨_, hc.2.2.2.2.2.2.2, rfl⟩) ?_
      refine C_iload_n dX6_read_86 rfl ?_
      refine D_callV (As := [vi _]) (d' := 3) (t_typeOf hw (Nat.le_refl _) hw.fresh (by omega)) dX6_read_87 v_X6_148 (fun h hc => ⟨_, hc.2.2.1 _ hw.fresh⟩) rfl (Nat.le_of_ble_eq_true rfl) (by omega) (Nat.le_of_ble_eq_true rfl) ?_
      simp only [Option.toList, List.nil_append, List.cons_append]
      have r_87 := r_typeOf (e := 54 - σ.2.2) (j := j) hw hw.fresh (by omega)
      by_cases c_90 : 0 ≤ (c_typeOf σ (54 - σ.2.2) j) ∧ (c_typeOf σ (54 - σ.2.2) j) < 4
      · refine D_callV (As := [vi _]) (d' := 0) (t_tableOf hw c_90) dX6_read_90 v_X6_67 (fun h hc => ⟨_, hc.2.2.2.2.2.2.2⟩) rfl (Nat.le_of_ble_eq_true rfl) (by omega) (Nat.le_of_ble_eq_true rfl) ?_
        simp only [Option.toList, List.nil_append, List.cons_append]
        refine D_callV (As := [vi _, .ref _]) (d' := 5) (t_judgeMessage hw (Nat.le_refl _) hw.fresh (by omega) (tab4 (by assumption))) dX6_read_93 v_X6_152 (fun h hc => ⟨_, hc.2.2.1 _ hw.fresh⟩) rfl (Nat.le_of_ble_eq_true rfl) (by omega) (Nat.le_of_ble_eq_true rfl) ?_
        simp only [Option.toList, List.nil_append, List.cons_append]
        have hw2 : wf (c_judgeMessage σ (54 - σ.2.2) j (72 + 11 * Int.toNat (c_typeOf σ (54 - σ.2.2) j))) := w_judgeMessage hw hw.fresh (by omega) (tab4 (by assumption))
        refine C_iinc dX6_read_96 rfl (by decide) rfl ?_
        simp only [List.set_cons_zero, List.set_cons_succ]
        refine C_goto (tgt := 65) dX6_read_99 (by decide) ?_
        rw [c_readI, if_neg (by omega), if_pos (by omega)] at kk
        refine CJ.mono (ls' := [some (.ref 1), some (vi (j + 1))]) (lsub_ok (by repeat (first | exact trivial | refine ⟨rfl, ?_⟩))) (fun _ _ q => q) ?_
        exact ih hw2 (by omega) (by omega) kk
      · refine D_callV (As := [vi _]) (d' := 0) (t_tableOfN hw (by omega) c_90) dX6_read_90 v_X6_67 (fun h hc => ⟨_, hc.2.2.2.2.2.2.2⟩) rfl (Nat.le_of_ble_eq_true rfl) (by omega) (Nat.le_of_ble_eq_true rfl) ?_
        simp only [Option.toList, List.nil_append, List.cons_append]
        refine D_callV (As := [vi _, .null]) (d' := 5) (t_judgeMessageN hw (Nat.le_refl _) hw.fresh (by omega)) dX6_read_93 v_X6_152 (fun h hc => ⟨_, hc.2.2.1 _ hw.fresh⟩) rfl (Nat.le_of_ble_eq_true rfl) (by omega) (Nat.le_of_ble_eq_true rfl) ?_
        simp only [Option.toList, List.nil_append, List.cons_append]
        have hw3 : wf (c_judgeMessageN σ (54 - σ.2.2) j) := w_judgeMessageN hw hw.fresh (by omega)
        refine C_iinc dX6_read_96 rfl (by decide) rfl ?_
        simp only [List.set_cons_zero, List.set_cons_succ]
        refine C_goto (tgt := 65) dX6_read_99 (by decide) ?_
        rw [c_readI, if_neg (by omega), if_neg (by omega)] at kk
        refine CJ.mono (ls' := [some (.ref 1), some (vi (j + 1))]) (lsub_ok (by repeat (first | exact trivial | refine ⟨rfl, ?_⟩))) (fun _ _ q => q) ?_
        exact ih hw3 (by omega) (by omega) kk
theorem w_readI {σ : cS}  {j : Int} (hw : wf σ)  (fu : Nat) (hj : 0 ≤ j ∧ j ≤ 2001) : wf (c_readI  fu j σ) := by
  induction fu generalizing σ j with
  | zero => exact hw
  | succ fu ih =>
    unfold c_readI
    split
    · have r_70 := r_messageCount (e := 54 - σ.2.2) hw hw.fresh
      exact hw
    · split
      · have r_70 := r_messageCount (e := 54 - σ.2.2) hw hw.fresh
        have r_87 := r_typeOf (e := 54 - σ.2.2) (j := j) hw hw.fresh (by omega)
        have hw2 : wf (c_judgeMessage σ (54 - σ.2.2) j (72 + 11 * Int.toNat (c_typeOf σ (54 - σ.2.2) j))) := w_judgeMessage hw hw.fresh (by omega) (tab4 (by assumption))
        exact (ih hw2 (by omega))
      · have r_70 := r_messageCount (e := 54 - σ.2.2) hw hw.fresh
        have r_87 := r_typeOf (e := 54 - σ.2.2) (j := j) hw hw.fresh (by omega)
        have hw3 : wf (c_judgeMessageN σ (54 - σ.2.2) j) := w_judgeMessageN hw hw.fresh (by omega)
        exact (ih hw3 (by omega))
theorem k_readI (fu : Nat) (j : Int) (σ : cS) : (c_readI fu j σ).2.2 = σ.2.2 := by
  induction fu generalizing σ j with
  | zero => rfl
  | succ fu ih =>
    unfold c_readI
    (repeat' split) <;> simp [ih, k_judgeMessage, k_judgeMessageN]
def c_read (σ : cS)  : Option String × Int × cS := (if (c_takeApart σ 2 ((54 - σ.2.2) + 1)).1 = (-1) then (if (c_fit (cI (c_takeApart σ 2 ((54 - σ.2.2) + 1)).2 1 7 ((c_takeApart σ 2 ((54 - σ.2.2) + 1)).1)) (54 - σ.2.2)).1 = true then (none, (c_messageCount (c_writeReport (c_writePrint (c_xempty (cI (csw (c_readI  (2002) 0 (c_judgeEnds (c_fit (cI (c_takeApart σ 2 ((54 - σ.2.2) + 1)).2 1 7 ((c_takeApart σ 2 ((54 - σ.2.2) + 1)).1)) (54 - σ.2.2)).2 (54 - σ.2.2)))) 1 6 1) 2) 6 ((54 - σ.2.2) + 1)) 9 (54 - σ.2.2)) (54 - σ.2.2)), (c_writeReport (c_writePrint (c_xempty (cI (csw (c_readI  (2002) 0 (c_judgeEnds (c_fit (cI (c_takeApart σ 2 ((54 - σ.2.2) + 1)).2 1 7 ((c_takeApart σ 2 ((54 - σ.2.2) + 1)).1)) (54 - σ.2.2)).2 (54 - σ.2.2)))) 1 6 1) 2) 6 ((54 - σ.2.2) + 1)) 9 (54 - σ.2.2))) else (some "java/lang/UnsupportedOperationException", 0, (c_fit (cI (c_takeApart σ 2 ((54 - σ.2.2) + 1)).2 1 7 ((c_takeApart σ 2 ((54 - σ.2.2) + 1)).1)) (54 - σ.2.2)).2)) else (some "java/lang/IllegalArgumentException", 0, (cI (c_takeApart σ 2 ((54 - σ.2.2) + 1)).2 1 7 ((c_takeApart σ 2 ((54 - σ.2.2) + 1)).1))))
theorem t_read {l : Launch} {G : jG} {d : Nat} {σ : cS}  (hw : wf σ) (hd : 6 ≤ d)  : CJ jCls jown l G (Yx mX6_read) d 1 6 0 [some (.ref 1), none] [] σ (dte (c_read σ )) := by
  refine C_aload_n dX6_read_0 rfl ?_
  refine C_aload_n dX6_read_1 rfl ?_
  refine C_get dX6_read_2 f_X6_12 (fun h hc => ⟨_, hc.2.2.2.2.2.2.2, rfl⟩) ?_
  refine C_aload_n dX6_read_5 rfl ?_
  refine C_get dX6_read_6 f_X6_41 (fun h hc => ⟨_, hc.2.2.2.2.2.2.2, rfl⟩) ?_
  refine C_get dX6_read_9 f_X6_124 (fun h hc => ⟨_, hc.2.2.1 _ hw.fresh, rfl⟩) ?_
  refine D_callV (As := [.ref _]) (d' := 5) (t_takeApart hw (Nat.le_refl _) kd2 (kE1 hw.fresh)) dX6_read_12 v_X6_128 (fun h hc => ⟨_, hc.2.2.2.2.1 _ kd2⟩) rfl (Nat.le_of_ble_eq_true rfl) (by omega) (Nat.le_of_ble_eq_true rfl) ?_
  simp only [Option.toList, List.nil_append, List.cons_append]
  have hw1 : wf (c_takeApart σ 2 ((54 - σ.2.2) + 1)).2 := w_takeApart hw kd2 (kE1 hw.fresh)
  have r_12 := r_takeApart (x := 2) (p := (54 - σ.2.2) + 1) hw kd2 (kE1 hw.fresh)
  refine C_put (σ' := (cI (c_takeApart σ 2 ((54 - σ.2.2) + 1)).2 1 7 ((c_takeApart σ 2 ((54 - σ.2.2) + 1)).1))) dX6_read_15 f_X6_48 jfit_i (ownD kd1) (fun h hc => hc.putD7 kd1) ?_
  have hw2 : wf (cI (c_takeApart σ 2 ((54 - σ.2.2) + 1)).2 1 7 ((c_takeApart σ 2 ((54 - σ.2.2) + 1)).1)) := wf_I hw1 (by omega)
  refine C_aload_n dX6_read_18 rfl ?_
  refine C_get (v := vi (c_takeApart σ 2 ((54 - σ.2.2) + 1)).1) dX6_read_19 f_X6_48 (fun h hc => ⟨_, hc.2.2.2.2.2.2.2, congrArg (fun z => some (vi z)) (show ((cI (c_takeApart σ 2 ((54 - σ.2.2) + 1)).2 1 7 ((c_takeApart σ 2 ((54 - σ.2.2) + 1)).1)).2.1 1 7) = (c_takeApart σ 2 ((54 - σ.2.2) + 1)).1 by simp [cI, upI, cadd, cput, cemp])⟩) ?_
  refine C_iconst dX6_read_22 ?_
  refine C_icmp_eq (tgt := 36) dX6_read_23 (by decide) (by omega) (by omega) (fun c_23 => ?_) (fun c_23 => ?_)
  · refine C_aload_n dX6_read_36 rfl ?_
    refine C_get (v := .ref (54 - σ.2.2)) dX6_read_37 f_X6_41 (fun h hc => ⟨_, hc.2.2.2.2.2.2.2, congrArg (fun z => some (Value.ref z)) (show 54 - (cI (c_takeApart σ 2 ((54 - σ.2.2) + 1)).2 1 7 ((c_takeApart σ 2 ((54 - σ.2.2) + 1)).1)).2.2 = 54 - σ.2.2 by simp [cadd, cput, cemp, cI, csw, k_pempty, k_addSegment, k_addElement, k_addComponent, k_addCharacter, k_finish, k_tadd, k_addGroup, k_closeList, k_tempty, k_standAtItem, k_goOnL, k_goOn, k_takeItem, k_tmatchL, k_tmatch, k_endMatchL, k_endMatch, k_startMatchL, k_startMatch, k_note, k_eempty, k_matchMessageL, k_matchMessage, k_judgeMessage, k_judgeMessageN, k_judgeEndsL, k_judgeEnds, k_takeMessageL, k_takeMessage, k_takeGroupL, k_takeGroup, k_fitL, k_fit, k_xadd, k_xempty, k_takeChoice, k_takeMarksL, k_takeMarks, k_takeComponentL, k_takeComponent, k_takeElementL, k_takeElement, k_takeSegmentL2, k_takeSegmentL1, k_takeSegment, k_takeApartL, k_takeApart, k_putTag, k_putNumber, k_putComponentL, k_putComponent, k_putElementL, k_putElement, k_putVerdict, k_writePrintI, k_writePrintL, k_writePrint, k_writeReportL, k_writeReport, k_readI])⟩) ?_
    refine D_callV (As := []) (d' := 4) (t_fit hw2 (Nat.le_refl _) hw.fresh) dX6_read_40 v_X6_134 (fun h hc => ⟨_, hc.2.2.1 _ hw.fresh⟩) rfl (Nat.le_of_ble_eq_true rfl) (by omega) (Nat.le_of_ble_eq_true rfl) ?_
    simp only [Option.toList, List.nil_append, List.cons_append]
    have hw4 : wf (c_fit (cI (c_takeApart σ 2 ((54 - σ.2.2) + 1)).2 1 7 ((c_takeApart σ 2 ((54 - σ.2.2) + 1)).1)) (54 - σ.2.2)).2 := w_fit hw2 hw.fresh
    refine C_if_neZ (tgt := 56) dX6_read_43 (by decide) (fun c_43 => ?_) (fun c_43 => ?_)
    · refine C_aload_n dX6_read_56 rfl ?_
      refine C_get (v := .ref (54 - σ.2.2)) dX6_read_57 f_X6_41 (fun h hc => ⟨_, hc.2.2.2.2.2.2.2, congrArg (fun z => some (Value.ref z)) (show 54 - (c_fit (cI (c_takeApart σ 2 ((54 - σ.2.2) + 1)).2 1 7 ((c_takeApart σ 2 ((54 - σ.2.2) + 1)).1)) (54 - σ.2.2)).2.2.2 = 54 - σ.2.2 by simp [cadd, cput, cemp, cI, csw, k_pempty, k_addSegment, k_addElement, k_addComponent, k_addCharacter, k_finish, k_tadd, k_addGroup, k_closeList, k_tempty, k_standAtItem, k_goOnL, k_goOn, k_takeItem, k_tmatchL, k_tmatch, k_endMatchL, k_endMatch, k_startMatchL, k_startMatch, k_note, k_eempty, k_matchMessageL, k_matchMessage, k_judgeMessage, k_judgeMessageN, k_judgeEndsL, k_judgeEnds, k_takeMessageL, k_takeMessage, k_takeGroupL, k_takeGroup, k_fitL, k_fit, k_xadd, k_xempty, k_takeChoice, k_takeMarksL, k_takeMarks, k_takeComponentL, k_takeComponent, k_takeElementL, k_takeElement, k_takeSegmentL2, k_takeSegmentL1, k_takeSegment, k_takeApartL, k_takeApart, k_putTag, k_putNumber, k_putComponentL, k_putComponent, k_putElementL, k_putElement, k_putVerdict, k_writePrintI, k_writePrintL, k_writePrint, k_writeReportL, k_writeReport, k_readI])⟩) ?_
      refine D_callV (As := []) (d' := 5) (t_judgeEnds hw4 (Nat.le_refl _) hw.fresh) dX6_read_60 v_X6_142 (fun h hc => ⟨_, hc.2.2.1 _ hw.fresh⟩) rfl (Nat.le_of_ble_eq_true rfl) (by omega) (Nat.le_of_ble_eq_true rfl) ?_
      simp only [Option.toList, List.nil_append, List.cons_append]
      have hw6 : wf (c_judgeEnds (c_fit (cI (c_takeApart σ 2 ((54 - σ.2.2) + 1)).2 1 7 ((c_takeApart σ 2 ((54 - σ.2.2) + 1)).1)) (54 - σ.2.2)).2 (54 - σ.2.2)) := w_judgeEnds hw4 hw.fresh
      refine C_iconst dX6_read_63 ?_
      refine C_istore_n dX6_read_64 (by decide) rfl ?_
      simp only [List.set_cons_zero, List.set_cons_succ, jfin0, jfin1, jfin2, jfin3]
      refine CJ.mono (ls' := [some (.ref 1), some (vi 0)]) (lsub_ok (by repeat (first | exact trivial | refine ⟨rfl, ?_⟩))) (fun _ _ q => q) ?_
      refine t_readI hw6 hd  (2002) (by omega) (by omega) ?_
      have hw7 : wf (c_readI  (2002) 0 (c_judgeEnds (c_fit (cI (c_takeApart σ 2 ((54 - σ.2.2) + 1)).2 1 7 ((c_takeApart σ 2 ((54 - σ.2.2) + 1)).1)) (54 - σ.2.2)).2 (54 - σ.2.2))) := w_readI (j := 0) hw6  (2002) (by omega)
      refine CJ.mono (ls' := [some (.ref 1), none]) (lsub_ok (by repeat (first | exact trivial | refine ⟨rfl, ?_⟩))) (fun _ _ q => q) ?_
      refine t_swap hw7 ?_
      refine CJ.mono (ls' := [some (.ref 1), none]) (lsub_ok (by repeat (first | exact trivial | refine ⟨rfl, ?_⟩))) (fun _ _ q => q) ?_
      have hw8 : wf (csw (c_readI  (2002) 0 (c_judgeEnds (c_fit (cI (c_takeApart σ 2 ((54 - σ.2.2) + 1)).2 1 7 ((c_takeApart σ 2 ((54 - σ.2.2) + 1)).1)) (54 - σ.2.2)).2 (54 - σ.2.2)))) := wf_sw hw7
      refine C_aload_n dX6_read_120 rfl ?_
      refine C_iconst dX6_read_121 ?_
      refine C_put (σ' := (cI (csw (c_readI  (2002) 0 (c_judgeEnds (c_fit (cI (c_takeApart σ 2 ((54 - σ.2.2) + 1)).2 1 7 ((c_takeApart σ 2 ((54 - σ.2.2) + 1)).1)) (54 - σ.2.2)).2 (54 - σ.2.2)))) 1 6 1)) dX6_read_122 f_X6_44 jfit_zv (ownD kd1) (fun h hc => hc.putD6 kd1) ?_
      have hw9 : wf (cI (csw (c_readI  (2002) 0 (c_judgeEnds (c_fit (cI (c_takeApart σ 2 ((54 - σ.2.2) + 1)).2 1 7 ((c_takeApart σ 2 ((54 - σ.2.2) + 1)).1)) (54 - σ.2.2)).2 (54 - σ.2.2)))) 1 6 1) := wf_I hw8 (by omega)
      refine C_aload_n dX6_read_125 rfl ?_
      refine C_get dX6_read_126 f_X6_12 (fun h hc => ⟨_, hc.2.2.2.2.2.2.2, rfl⟩) ?_
      refine D_callV (As := []) (d' := 1) (t_xempty hw9 (Nat.le_refl _) kd2) dX6_read_129 v_X6_64 (fun h hc => ⟨_, hc.2.2.2.2.1 _ kd2⟩) rfl (Nat.le_of_ble_eq_true rfl) (by omega) (Nat.le_of_ble_eq_true rfl) ?_
      simp only [Option.toList, List.nil_append, List.cons_append]
      have hw10 : wf (c_xempty (cI (csw (c_readI  (2002) 0 (c_judgeEnds (c_fit (cI (c_takeApart σ 2 ((54 - σ.2.2) + 1)).2 1 7 ((c_takeApart σ 2 ((54 - σ.2.2) + 1)).1)) (54 - σ.2.2)).2 (54 - σ.2.2)))) 1 6 1) 2) := w_xempty hw9 kd2
      refine C_aload_n dX6_read_132 rfl ?_
      refine C_get dX6_read_133 f_X6_27 (fun h hc => ⟨_, hc.2.2.2.2.2.2.2, rfl⟩) ?_
      refine C_aload_n dX6_read_136 rfl ?_
      refine C_get (v := .ref (54 - σ.2.2)) dX6_read_137 f_X6_37 (fun h hc => ⟨_, hc.2.2.2.2.2.2.2, congrArg (fun z => some (Value.ref z)) (show (c_xempty (cI (csw (c_readI  (2002) 0 (c_judgeEnds (c_fit (cI (c_takeApart σ 2 ((54 - σ.2.2) + 1)).2 1 7 ((c_takeApart σ 2 ((54 - σ.2.2) + 1)).1)) (54 - σ.2.2)).2 (54 - σ.2.2)))) 1 6 1) 2).2.2 = 54 - σ.2.2 by simp [cadd, cput, cemp, cI, csw, k_pempty, k_addSegment, k_addElement, k_addComponent, k_addCharacter, k_finish, k_tadd, k_addGroup, k_closeList, k_tempty, k_standAtItem, k_goOnL, k_goOn, k_takeItem, k_tmatchL, k_tmatch, k_endMatchL, k_endMatch, k_startMatchL, k_startMatch, k_note, k_eempty, k_matchMessageL, k_matchMessage, k_judgeMessage, k_judgeMessageN, k_judgeEndsL, k_judgeEnds, k_takeMessageL, k_takeMessage, k_takeGroupL, k_takeGroup, k_fitL, k_fit, k_xadd, k_xempty, k_takeChoice, k_takeMarksL, k_takeMarks, k_takeComponentL, k_takeComponent, k_takeElementL, k_takeElement, k_takeSegmentL2, k_takeSegmentL1, k_takeSegment, k_takeApartL, k_takeApart, k_putTag, k_putNumber, k_putComponentL, k_putComponent, k_putElementL, k_putElement, k_putVerdict, k_writePrintI, k_writePrintL, k_writePrint, k_writeReportL, k_writeReport, k_readI])⟩) ?_
      refine C_get dX6_read_140 f_X6_124 (fun h hc => ⟨_, hc.2.2.1 _ hw.fresh, rfl⟩) ?_
      refine D_callV (As := [.ref _]) (d' := 5) (t_writePrint hw10 (Nat.le_refl _) kd6 (kE1 hw.fresh)) dX6_read_143 v_X6_156 (fun h hc => ⟨_, hc.2.2.2.2.2.1 _ kd6⟩) rfl (Nat.le_of_ble_eq_true rfl) (by omega) (Nat.le_of_ble_eq_true rfl) ?_
      simp only [Option.toList, List.nil_append, List.cons_append]
      have hw11 : wf (c_writePrint (c_xempty (cI (csw (c_readI  (2002) 0 (c_judgeEnds (c_fit (cI (c_takeApart σ 2 ((54 - σ.2.2) + 1)).2 1 7 ((c_takeApart σ 2 ((54 - σ.2.2) + 1)).1)) (54 - σ.2.2)).2 (54 - σ.2.2)))) 1 6 1) 2) 6 ((54 - σ.2.2) + 1)) := w_writePrint hw10 kd6 (kE1 hw.fresh)
      refine C_aload_n dX6_read_146 rfl ?_
      refine C_get dX6_read_147 f_X6_31 (fun h hc => ⟨_, hc.2.2.2.2.2.2.2, rfl⟩) ?_
      refine C_aload_n dX6_read_150 rfl ?_
      refine C_get (v := .ref (54 - σ.2.2)) dX6_read_151 f_X6_37 (fun h hc => ⟨_, hc.2.2.2.2.2.2.2, congrArg (fun z => some (Value.ref z)) (show (c_writePrint (c_xempty (cI (csw (c_readI  (2002) 0 (c_judgeEnds (c_fit (cI (c_takeApart σ 2 ((54 - σ.2.2) + 1)).2 1 7 ((c_takeApart σ 2 ((54 - σ.2.2) + 1)).1)) (54 - σ.2.2)).2 (54 - σ.2.2)))) 1 6 1) 2) 6 ((54 - σ.2.2) + 1)).2.2 = 54 - σ.2.2 by simp [cadd, cput, cemp, cI, csw, k_pempty, k_addSegment, k_addElement, k_addComponent, k_addCharacter, k_finish, k_tadd, k_addGroup, k_closeList, k_tempty, k_standAtItem, k_goOnL, k_goOn, k_takeItem, k_tmatchL, k_tmatch, k_endMatchL, k_endMatch, k_startMatchL, k_startMatch, k_note, k_eempty, k_matchMessageL, k_matchMessage, k_judgeMessage, k_judgeMessageN, k_judgeEndsL, k_judgeEnds, k_takeMessageL, k_takeMessage, k_takeGroupL, k_takeGroup, k_fitL, k_fit, k_xadd, k_xempty, k_takeChoice, k_takeMarksL, k_takeMarks, k_takeComponentL, k_takeComponent, k_takeElementL, k_takeElement, k_takeSegmentL2, k_takeSegmentL1, k_takeSegment, k_takeApartL, k_takeApart, k_putTag, k_putNumber, k_putComponentL, k_putComponent, k_putElementL, k_putElement, k_putVerdict, k_writePrintI, k_writePrintL, k_writePrint, k_writeReportL, k_writeReport, k_readI])⟩) ?_
      refine D_callV (As := [.ref _]) (d' := 5) (t_writeReport hw11 (Nat.le_refl _) kd9 hw.fresh) dX6_read_154 v_X6_160 (fun h hc => ⟨_, hc.2.2.2.2.2.1 _ kd9⟩) rfl (Nat.le_of_ble_eq_true rfl) (by omega) (Nat.le_of_ble_eq_true rfl) ?_
      simp only [Option.toList, List.nil_append, List.cons_append]
      have hw12 : wf (c_writeReport (c_writePrint (c_xempty (cI (csw (c_readI  (2002) 0 (c_judgeEnds (c_fit (cI (c_takeApart σ 2 ((54 - σ.2.2) + 1)).2 1 7 ((c_takeApart σ 2 ((54 - σ.2.2) + 1)).1)) (54 - σ.2.2)).2 (54 - σ.2.2)))) 1 6 1) 2) 6 ((54 - σ.2.2) + 1)) 9 (54 - σ.2.2)) := w_writeReport hw11 kd9 hw.fresh
      refine C_aload_n dX6_read_157 rfl ?_
      refine C_get (v := .ref (54 - σ.2.2)) dX6_read_158 f_X6_37 (fun h hc => ⟨_, hc.2.2.2.2.2.2.2, congrArg (fun z => some (Value.ref z)) (show (c_writeReport (c_writePrint (c_xempty (cI (csw (c_readI  (2002) 0 (c_judgeEnds (c_fit (cI (c_takeApart σ 2 ((54 - σ.2.2) + 1)).2 1 7 ((c_takeApart σ 2 ((54 - σ.2.2) + 1)).1)) (54 - σ.2.2)).2 (54 - σ.2.2)))) 1 6 1) 2) 6 ((54 - σ.2.2) + 1)) 9 (54 - σ.2.2)).2.2 = 54 - σ.2.2 by simp [cadd, cput, cemp, cI, csw, k_pempty, k_addSegment, k_addElement, k_addComponent, k_addCharacter, k_finish, k_tadd, k_addGroup, k_closeList, k_tempty, k_standAtItem, k_goOnL, k_goOn, k_takeItem, k_tmatchL, k_tmatch, k_endMatchL, k_endMatch, k_startMatchL, k_startMatch, k_note, k_eempty, k_matchMessageL, k_matchMessage, k_judgeMessage, k_judgeMessageN, k_judgeEndsL, k_judgeEnds, k_takeMessageL, k_takeMessage, k_takeGroupL, k_takeGroup, k_fitL, k_fit, k_xadd, k_xempty, k_takeChoice, k_takeMarksL, k_takeMarks, k_takeComponentL, k_takeComponent, k_takeElementL, k_takeElement, k_takeSegmentL2, k_takeSegmentL1, k_takeSegment, k_takeApartL, k_takeApart, k_putTag, k_putNumber, k_putComponentL, k_putComponent, k_putElementL, k_putElement, k_putVerdict, k_writePrintI, k_writePrintL, k_writePrint, k_writeReportL, k_writeReport, k_readI])⟩) ?_
      refine D_callV (As := []) (d' := 1) (t_messageCount hw12 (Nat.le_refl _) hw.fresh) dX6_read_161 v_X6_145 (fun h hc => ⟨_, hc.2.2.1 _ hw.fresh⟩) rfl (Nat.le_of_ble_eq_true rfl) (by omega) (Nat.le_of_ble_eq_true rfl) ?_
      simp only [Option.toList, List.nil_append, List.cons_append]
      have r_161 := r_messageCount (e := 54 - σ.2.2) hw12 hw.fresh
      refine C_iret dX6_read_164 rfl ?_
      unfold dte; rw [c_read, if_pos (by omega), if_pos c_43]; exact ⟨rfl, rfl⟩
    · refine C_throw dX6_read_46 dX6_read_49 dX6_read_50 dX6_read_52 dX6_read_55 t_X6_137_139 (by omega) (Nat.le_of_ble_eq_true rfl) rfl ?_
      unfold dte; rw [c_read, if_pos (by omega), if_neg (by rw [c_43]; decide)]; exact ⟨rfl, rfl⟩
  · refine C_throw dX6_read_26 dX6_read_29 dX6_read_30 dX6_read_32 dX6_read_35 t_X6_81_132 (by omega) (Nat.le_of_ble_eq_true rfl) rfl ?_
    unfold dte; rw [c_read, if_neg (by omega)]; exact ⟨rfl, rfl⟩
theorem w_read {σ : cS}  (hw : wf σ)  : wf (c_read σ ).2.2 := by
  unfold c_read
  split
  · split
    · have hw1 : wf (c_takeApart σ 2 ((54 - σ.2.2) + 1)).2 := w_takeApart hw kd2 (kE1 hw.fresh)
      have r_12 := r_takeApart (x := 2) (p := (54 - σ.2.2) + 1) hw kd2 (kE1 hw.fresh)
      have hw2 : wf (cI (c_takeApart σ 2 ((54 - σ.2.2) + 1)).2 1 7 ((c_takeApart σ 2 ((54 - σ.2.2) + 1)).1)) := wf_I hw1 (by omega)
      have hw4 : wf (c_fit (cI (c_takeApart σ 2 ((54 - σ.2.2) + 1)).2 1 7 ((c_takeApart σ 2 ((54 - σ.2.2) + 1)).1)) (54 - σ.2.2)).2 := w_fit hw2 hw.fresh
      have hw6 : wf (c_judgeEnds (c_fit (cI (c_takeApart σ 2 ((54 - σ.2.2) + 1)).2 1 7 ((c_takeApart σ 2 ((54 - σ.2.2) + 1)).1)) (54 - σ.2.2)).2 (54 - σ.2.2)) := w_judgeEnds hw4 hw.fresh
      have hw7 : wf (c_readI  (2002) 0 (c_judgeEnds (c_fit (cI (c_takeApart σ 2 ((54 - σ.2.2) + 1)).2 1 7 ((c_takeApart σ 2 ((54 - σ.2.2) + 1)).1)) (54 - σ.2.2)).2 (54 - σ.2.2))) := w_readI (j := 0) hw6  (2002) (by omega)
      have hw8 : wf (csw (c_readI  (2002) 0 (c_judgeEnds (c_fit (cI (c_takeApart σ 2 ((54 - σ.2.2) + 1)).2 1 7 ((c_takeApart σ 2 ((54 - σ.2.2) + 1)).1)) (54 - σ.2.2)).2 (54 - σ.2.2)))) := wf_sw hw7
      have hw9 : wf (cI (csw (c_readI  (2002) 0 (c_judgeEnds (c_fit (cI (c_takeApart σ 2 ((54 - σ.2.2) + 1)).2 1 7 ((c_takeApart σ 2 ((54 - σ.2.2) + 1)).1)) (54 - σ.2.2)).2 (54 - σ.2.2)))) 1 6 1) := wf_I hw8 (by omega)
      have hw10 : wf (c_xempty (cI (csw (c_readI  (2002) 0 (c_judgeEnds (c_fit (cI (c_takeApart σ 2 ((54 - σ.2.2) + 1)).2 1 7 ((c_takeApart σ 2 ((54 - σ.2.2) + 1)).1)) (54 - σ.2.2)).2 (54 - σ.2.2)))) 1 6 1) 2) := w_xempty hw9 kd2
      have hw11 : wf (c_writePrint (c_xempty (cI (csw (c_readI  (2002) 0 (c_judgeEnds (c_fit (cI (c_takeApart σ 2 ((54 - σ.2.2) + 1)).2 1 7 ((c_takeApart σ 2 ((54 - σ.2.2) + 1)).1)) (54 - σ.2.2)).2 (54 - σ.2.2)))) 1 6 1) 2) 6 ((54 - σ.2.2) + 1)) := w_writePrint hw10 kd6 (kE1 hw.fresh)
      have hw12 : wf (c_writeReport (c_writePrint (c_xempty (cI (csw (c_readI  (2002) 0 (c_judgeEnds (c_fit (cI (c_takeApart σ 2 ((54 - σ.2.2) + 1)).2 1 7 ((c_takeApart σ 2 ((54 - σ.2.2) + 1)).1)) (54 - σ.2.2)).2 (54 - σ.2.2)))) 1 6 1) 2) 6 ((54 - σ.2.2) + 1)) 9 (54 - σ.2.2)) := w_writeReport hw11 kd9 hw.fresh
      have r_161 := r_messageCount (e := 54 - σ.2.2) hw12 hw.fresh
      exact hw12
    · have hw1 : wf (c_takeApart σ 2 ((54 - σ.2.2) + 1)).2 := w_takeApart hw kd2 (kE1 hw.fresh)
      have r_12 := r_takeApart (x := 2) (p := (54 - σ.2.2) + 1) hw kd2 (kE1 hw.fresh)
      have hw2 : wf (cI (c_takeApart σ 2 ((54 - σ.2.2) + 1)).2 1 7 ((c_takeApart σ 2 ((54 - σ.2.2) + 1)).1)) := wf_I hw1 (by omega)
      have hw4 : wf (c_fit (cI (c_takeApart σ 2 ((54 - σ.2.2) + 1)).2 1 7 ((c_takeApart σ 2 ((54 - σ.2.2) + 1)).1)) (54 - σ.2.2)).2 := w_fit hw2 hw.fresh
      exact hw4
  · have hw1 : wf (c_takeApart σ 2 ((54 - σ.2.2) + 1)).2 := w_takeApart hw kd2 (kE1 hw.fresh)
    have r_12 := r_takeApart (x := 2) (p := (54 - σ.2.2) + 1) hw kd2 (kE1 hw.fresh)
    have hw2 : wf (cI (c_takeApart σ 2 ((54 - σ.2.2) + 1)).2 1 7 ((c_takeApart σ 2 ((54 - σ.2.2) + 1)).1)) := wf_I hw1 (by omega)
    exact hw2
