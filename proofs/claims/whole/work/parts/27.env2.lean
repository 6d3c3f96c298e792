theorem tagOf2 {σ : cS} {p : Nat} (hw : wf σ) (hp : kd p = 2) (i : Int) : (-3000 ≤ c_tagOf σ p i ∧ c_tagOf σ p i < 100000000) ∧ (c_tagOf σ p i = -1 ∨ (0 ≤ i ∧ i < (σ.1 (p + 1)).length)) ∧ ((σ.1 (p + 1)).length : Int) ≤ 2000 := hw.ra2 (kP1 hp) i
def c_isRepeatedL (e : Nat) (j : Int) : Nat → Int → cS → Bool
  | 0, _, σ => false
  | fu + 1, k, σ => (if j ≤ k then false else (if (c_areSame σ (e + 1) (c_referenceOfMessage σ e k) (c_referenceOfMessage σ e j)) = true then true else (c_isRepeatedL e j fu (k + 1) σ)))
def c_isRepeated (σ : cS) (e : Nat) (j : Int) : Bool := (c_isRepeatedL e j (2002) 0 σ)
theorem t_isRepeatedL {l : Launch} {G : jG} {d : Nat} {σ : cS} {e : Nat} {j : Int} {k : Int} (hw : wf σ) (hd : 4 ≤ d) (he : kd e = 0) (hj : -1 ≤ j ∧ j ≤ 2000) (fu : Nat) (hk : 0 ≤ k ∧ k ≤ 2001) (hm : 2001 - k < (fu : Int)) : CJ jCls jown l G (Yx mX0_isRepeated) d 0 0 2 [some (.ref e), some (vi j), some (vi k)] [] σ (det (some (vi (bz (c_isRepeatedL e j fu k σ)))) σ) := by
  induction fu generalizing σ k with
  | zero => exact absurd hm (by omega)
  | succ fu ih =>
    refine C_iload_n dX0_isRepeated_2 rfl ?_
    refine C_iload_n dX0_isRepeated_3 rfl ?_
    refine C_icmp_ge (tgt := 35) dX0_isRepeated_4 (by decide) (by omega) (by omega) (fun c_4 => ?_) (fun c_4 => ?_)
    · refine C_iconst dX0_isRepeated_35 ?_
      refine C_zret dX0_isRepeated_36 rfl (by first | exact Or.inl rfl | exact Or.inr rfl | exact bz_01 _) ?_
      unfold det; rw [c_isRepeatedL, if_pos (by omega)]; exact ⟨rfl, rfl⟩
    · refine C_aload_n dX0_isRepeated_7 rfl ?_
      refine C_get dX0_isRepeated_8 f_X0_12 (fun h hc => ⟨_, hc.2.2.1 _ he, rfl⟩) ?_
      refine C_aload_n dX0_isRepeated_11 rfl ?_
      refine C_iload_n dX0_isRepeated_12 rfl ?_
      refine D_callV (As := [vi _]) (d' := 3) (t_referenceOfMessage hw (Nat.le_refl _) he (by omega)) dX0_isRepeated_13 v_X0_136 (fun h hc => ⟨_, hc.2.2.1 _ he⟩) rfl (Nat.le_of_ble_eq_true rfl) (by omega) (Nat.le_of_ble_eq_true rfl) ?_
      simp only [Option.toList, List.nil_append, List.cons_append]
      have r_13 := r_referenceOfMessage (e := e) (j := k) hw he (by omega)
      refine C_aload_n dX0_isRepeated_16 rfl ?_
      refine C_iload_n dX0_isRepeated_17 rfl ?_
      refine D_callV (As := [vi _]) (d' := 3) (t_referenceOfMessage hw (Nat.le_refl _) he (by omega)) dX0_isRepeated_18 v_X0_136 (fun h hc => ⟨_, hc.2.2.1 _ he⟩) rfl (Nat.le_of_ble_eq_true rfl) (by omega) (Nat.le_of_ble_eq_true rfl) ?_
      simp only [Option.toList, List.nil_append, List.cons_append]
      have r_18 := r_referenceOfMessage (e := e) (j := j) hw he (by omega)
      refine D_callV (As := [vi _, vi _]) (d' := 2) (t_areSame hw (Nat.le_refl _) (kE1 he) (by omega) (by omega)) dX0_isRepeated_21 v_X0_130 (fun h hc => ⟨_, hc.2.1 _ (kE1 he)⟩) rfl (Nat.le_of_ble_eq_true rfl) (by omega) (Nat.le_of_ble_eq_true rfl) ?_
      simp only [Option.toList, List.nil_append, List.cons_append]
      refine C_if_eqZ (tgt := 29) dX0_isRepeated_24 (by decide) (fun c_24 => ?_) (fun c_24 => ?_)
      · refine C_iinc dX0_isRepeated_29 rfl (by decide) rfl ?_
        simp only [List.set_cons_zero, List.set_cons_succ]
        refine C_goto (tgt := 2) dX0_isRepeated_32 (by decide) ?_
        rw [c_isRepeatedL, if_neg (by omega), if_neg (by rw [c_24]; decide)]
        refine CJ.mono (ls' := [some (.ref e), some (vi j), some (vi (k + 1))]) (lsub_ok (by repeat (first | exact trivial | refine ⟨rfl, ?_⟩))) (fun _ _ q => q) ?_
        exact ih hw (by omega) (by omega)
      · refine C_iconst dX0_isRepeated_27 ?_
        refine C_zret dX0_isRepeated_28 rfl (by first | exact Or.inl rfl | exact Or.inr rfl | exact bz_01 _) ?_
        unfold det; rw [c_isRepeatedL, if_neg (by omega), if_pos c_24]; exact ⟨rfl, rfl⟩
theorem t_isRepeated {l : Launch} {G : jG} {d : Nat} {σ : cS} {e : Nat} {j : Int} (hw : wf σ) (hd : 4 ≤ d) (he : kd e = 0) (hj : -1 ≤ j ∧ j ≤ 2000) : CJ jCls jown l G (Yx mX0_isRepeated) d 0 0 0 [some (.ref e), some (vi j), none] [] σ (det (some (vi (bz (c_isRepeated σ e j)))) σ) := by
  refine C_iconst dX0_isRepeated_0 ?_
  refine C_istore_n dX0_isRepeated_1 (by decide) rfl ?_
  simp only [List.set_cons_zero, List.set_cons_succ, jfin0, jfin1, jfin2, jfin3]
  rw [c_isRepeated]
  refine CJ.mono (ls' := [some (.ref e), some (vi j), some (vi 0)]) (lsub_ok (by repeat (first | exact trivial | refine ⟨rfl, ?_⟩))) (fun _ _ q => q) ?_
  exact t_isRepeatedL hw hd he hj (2002) (by omega) (by omega)
def c_matchMessageL (e : Nat) (j : Int) (t : Nat) : Nat → Int → Int → cS → cS
  | 0, _, _, σ => σ
  | fu + 1, x, s, σ => (if x ≤ s then (if (c_endMatch σ t).1 = 0 then (c_note (c_endMatch σ t).2 e j ((c_endMatch σ t).1) (-1)) else (c_note (c_endMatch σ t).2 e j ((c_endMatch σ t).1) x)) else (if (c_tmatch σ t (c_tagOf σ (e + 1) s)).1 = 0 then (c_matchMessageL e j t fu x (s + 1) (c_tmatch σ t (c_tagOf σ (e + 1) s)).2) else (c_note (c_tmatch σ t (c_tagOf σ (e + 1) s)).2 e j ((c_tmatch σ t (c_tagOf σ (e + 1) s)).1) s)))
def c_matchMessage (σ : cS) (e : Nat) (j : Int) (t : Nat) : cS := (c_matchMessageL e j t (100003001) (rat (σ.1 (e + 14)) j) ((rat ((c_startMatch σ t).1 (e + 12)) j) + 1) (c_startMatch σ t))
theorem t_matchMessageL {l : Launch} {G : jG} {d : Nat} {σ : cS} {e : Nat} {j : Int} {t : Nat} {x s : Int} (hw : wf σ) (hd : 4 ≤ d) (he : kd e = 0) (hj : -1 ≤ j ∧ j ≤ 2000) (ht : kd t = 4) (fu : Nat) (hx : -3000 ≤ x ∧ x < 100000000) (hs : -3000 ≤ s ∧ s ≤ 100000000) (hm : 100000000 - s < (fu : Int)) : CJ jCls jown l G (Yx mX0_matchMessage) d 0 0 25 [some (.ref e), some (vi j), some (.ref t), some (vi x), some (vi s), none] [] σ (det none (c_matchMessageL e j t fu x s σ)) := by
  induction fu generalizing σ x s with
  | zero => exact absurd hm (by omega)
  | succ fu ih =>
    refine C_iload dX0_matchMessage_25 rfl ?_
    refine C_iload_n dX0_matchMessage_27 rfl ?_
    refine C_icmp_ge (tgt := 67) dX0_matchMessage_28 (by decide) (by omega) (by omega) (fun c_28 => ?_) (fun c_28 => ?_)
    · refine C_aload_n dX0_matchMessage_67 rfl ?_
      refine D_callV (As := []) (d' := 2) (t_endMatch hw (Nat.le_refl _) ht) dX0_matchMessage_68 v_X0_161 (fun h hc => ⟨_, hc.2.2.2.1 _ ht⟩) rfl (Nat.le_of_ble_eq_true rfl) (by omega) (Nat.le_of_ble_eq_true rfl) ?_
      simp only [Option.toList, List.nil_append, List.cons_append]
      have hw2 : wf (c_endMatch σ t).2 := w_endMatch hw ht
      have r_68 := r_endMatch (t := t) hw ht
      refine C_istore dX0_matchMessage_71 (by decide) rfl ?_
      simp only [List.set_cons_zero, List.set_cons_succ, jfin0, jfin1, jfin2, jfin3]
      refine C_aload_n dX0_matchMessage_73 rfl ?_
      refine C_iload_n dX0_matchMessage_74 rfl ?_
      refine C_iload dX0_matchMessage_75 rfl ?_
      refine C_iload dX0_matchMessage_77 rfl ?_
      refine C_if_ne (tgt := 86) dX0_matchMessage_79 (by decide) (by omega) (fun c_79 => ?_) (fun c_79 => ?_)
      · refine C_iload_n dX0_matchMessage_86 rfl ?_
        refine D_callV (As := [vi _, vi _, vi _]) (d' := 1) (t_note hw2 (Nat.le_refl _) he (by omega) (by omega) (by omega)) dX0_matchMessage_87 v_X0_139 (fun h hc => ⟨_, hc.2.2.1 _ he⟩) rfl (Nat.le_of_ble_eq_true rfl) (by omega) (Nat.le_of_ble_eq_true rfl) ?_
        simp only [Option.toList, List.nil_append, List.cons_append]
        have hw4 : wf (c_note (c_endMatch σ t).2 e j ((c_endMatch σ t).1) x) := w_note hw2 he (by omega) (by omega) (by omega)
        refine C_vret dX0_matchMessage_90 rfl ⟨rfl, ?_⟩
        rw [c_matchMessageL, if_pos (by omega), if_neg (by omega)]
      · refine C_iconst dX0_matchMessage_82 ?_
        refine C_goto (tgt := 87) dX0_matchMessage_83 (by decide) ?_
        refine D_callV (As := [vi _, vi _, vi _]) (d' := 1) (t_note hw2 (Nat.le_refl _) he (by omega) (by omega) (by omega)) dX0_matchMessage_87 v_X0_139 (fun h hc => ⟨_, hc.2.2.1 _ he⟩) rfl (Nat.le_of_ble_eq_true rfl) (by omega) (Nat.le_of_ble_eq_true rfl) ?_
        simp only [Option.toList, List.nil_append, List.cons_append]
        have hw5 : wf (c_note (c_endMatch σ t).2 e j ((c_endMatch σ t).1) (-1)) := w_note hw2 he (by omega) (by omega) (by omega)
        refine C_vret dX0_matchMessage_90 rfl ⟨rfl, ?_⟩
        rw [c_matchMessageL, if_pos (by omega), if_pos (by omega)]
    · refine C_aload_n dX0_matchMessage_31 rfl ?_
      refine C_aload_n dX0_matchMessage_32 rfl ?_
      refine C_get dX0_matchMessage_33 f_X0_12 (fun h hc => ⟨_, hc.2.2.1 _ he, rfl⟩) ?_
      refine C_iload dX0_matchMessage_36 rfl ?_
      refine D_callV (As := [vi _]) (d' := 1) (t_tagOf hw (Nat.le_refl _) (kE1 he) (by omega)) dX0_matchMessage_38 v_X0_65 (fun h hc => ⟨_, hc.2.1 _ (kE1 he)⟩) rfl (Nat.le_of_ble_eq_true rfl) (by omega) (Nat.le_of_ble_eq_true rfl) ?_
      simp only [Option.toList, List.nil_append, List.cons_append]
      have r_38 := tagOf2 hw (kE1 he) s
      refine D_callV (As := [vi _]) (d' := 3) (t_tmatch hw (Nat.le_refl _) ht (by omega)) dX0_matchMessage_41 v_X0_158 (fun h hc => ⟨_, hc.2.2.2.1 _ ht⟩) rfl (Nat.le_of_ble_eq_true rfl) (by omega) (Nat.le_of_ble_eq_true rfl) ?_
      simp only [Option.toList, List.nil_append, List.cons_append]
      have hw6 : wf (c_tmatch σ t (c_tagOf σ (e + 1) s)).2 := w_tmatch hw ht (by omega)
      have r_41 := r_tmatch (t := t) (g := (c_tagOf σ (e + 1) s)) hw ht (by omega)
      refine C_istore dX0_matchMessage_44 (by decide) rfl ?_
      simp only [List.set_cons_zero, List.set_cons_succ, jfin0, jfin1, jfin2, jfin3]
      refine C_iload dX0_matchMessage_46 rfl ?_
      refine C_if_eq (tgt := 61) dX0_matchMessage_48 (by decide) (by omega) (fun c_48 => ?_) (fun c_48 => ?_)
      · refine C_iinc dX0_matchMessage_61 rfl (by decide) rfl ?_
        simp only [List.set_cons_zero, List.set_cons_succ]
        refine C_goto (tgt := 25) dX0_matchMessage_64 (by decide) ?_
        rw [c_matchMessageL, if_neg (by omega), if_pos (by omega)]
        refine CJ.mono (ls' := [some (.ref e), some (vi j), some (.ref t), some (vi x), some (vi (s + 1)), none]) (lsub_ok (by repeat (first | exact trivial | refine ⟨rfl, ?_⟩))) (fun _ _ q => q) ?_
        exact ih hw6 (by omega) (by omega) (by omega)
      · refine C_aload_n dX0_matchMessage_51 rfl ?_
        refine C_iload_n dX0_matchMessage_52 rfl ?_
        refine C_iload dX0_matchMessage_53 rfl ?_
        refine C_iload dX0_matchMessage_55 rfl ?_
        refine D_callV (As := [vi _, vi _, vi _]) (d' := 1) (t_note hw6 (Nat.le_refl _) he (by omega) (by omega) (by omega)) dX0_matchMessage_57 v_X0_139 (fun h hc => ⟨_, hc.2.2.1 _ he⟩) rfl (Nat.le_of_ble_eq_true rfl) (by omega) (Nat.le_of_ble_eq_true rfl) ?_
        simp only [Option.toList, List.nil_append, List.cons_append]
        have hw8 : wf (c_note (c_tmatch σ t (c_tagOf σ (e + 1) s)).2 e j ((c_tmatch σ t (c_tagOf σ (e + 1) s)).1) s) := w_note hw6 he (by omega) (by omega) (by omega)
        refine C_vret dX0_matchMessage_60 rfl ⟨rfl, ?_⟩
        rw [c_matchMessageL, if_neg (by omega), if_neg (by omega)]
theorem t_matchMessage {l : Launch} {G : jG} {d : Nat} {σ : cS} {e : Nat} {j : Int} {t : Nat} (hw : wf σ) (hd : 4 ≤ d) (he : kd e = 0) (hj : -1 ≤ j ∧ j ≤ 2000) (ht : kd t = 4) : CJ jCls jown l G (Yx mX0_matchMessage) d 0 0 0 [some (.ref e), some (vi j), some (.ref t), none, none, none] [] σ (det none (c_matchMessage σ e j t)) := by
  refine C_aload_n dX0_matchMessage_0 rfl ?_
  refine C_get dX0_matchMessage_1 f_X0_27 (fun h hc => ⟨_, hc.2.2.1 _ he, rfl⟩) ?_
  refine C_iload_n dX0_matchMessage_4 rfl ?_
  refine D_callV (As := [vi _]) (d' := 0) (row_at hw (kE14 he) (by omega)) dX0_matchMessage_5 v_X0_93 (fun h hc => ⟨_, (hc.1 _ (kE14 he)).1⟩) rfl (Nat.le_of_ble_eq_true rfl) (by omega) (Nat.le_of_ble_eq_true rfl) ?_
  simp only [Option.toList, List.nil_append, List.cons_append]
  have r_5 := hw.ra2 (kE14 he) j
  refine C_istore_n dX0_matchMessage_8 (by decide) rfl ?_
  simp only [List.set_cons_zero, List.set_cons_succ, jfin0, jfin1, jfin2, jfin3]
  refine C_aload_n dX0_matchMessage_9 rfl ?_
  refine D_callV (As := []) (d' := 1) (t_startMatch hw (Nat.le_refl _) ht) dX0_matchMessage_10 v_X0_155 (fun h hc => ⟨_, hc.2.2.2.1 _ ht⟩) rfl (Nat.le_of_ble_eq_true rfl) (by omega) (Nat.le_of_ble_eq_true rfl) ?_
  simp only [Option.toList, List.nil_append, List.cons_append]
  have hw1 : wf (c_startMatch σ t) := w_startMatch hw ht
  refine C_aload_n dX0_matchMessage_13 rfl ?_
  refine C_get dX0_matchMessage_14 f_X0_23 (fun h hc => ⟨_, hc.2.2.1 _ he, rfl⟩) ?_
  refine C_iload_n dX0_matchMessage_17 rfl ?_
  refine D_callV (As := [vi _]) (d' := 0) (row_at hw1 (kE12 he) (by omega)) dX0_matchMessage_18 v_X0_93 (fun h hc => ⟨_, (hc.1 _ (kE12 he)).1⟩) rfl (Nat.le_of_ble_eq_true rfl) (by omega) (Nat.le_of_ble_eq_true rfl) ?_
  simp only [Option.toList, List.nil_append, List.cons_append]
  have r_18 := hw1.ra2 (kE12 he) j
  refine C_iconst dX0_matchMessage_21 ?_
  refine C_iadd dX0_matchMessage_22 ?_
  refine C_istore dX0_matchMessage_23 (by decide) rfl ?_
  simp only [List.set_cons_zero, List.set_cons_succ, jfin0, jfin1, jfin2, jfin3]
  rw [c_matchMessage]
  refine CJ.mono (ls' := [some (.ref e), some (vi j), some (.ref t), some (vi (rat (σ.1 (e + 14)) j)), some (vi ((rat ((c_startMatch σ t).1 (e + 12)) j) + 1)), none]) (lsub_ok (by repeat (first | exact trivial | refine ⟨rfl, ?_⟩))) (fun _ _ q => q) ?_
  exact t_matchMessageL hw1 hd he hj ht (100003001) (by omega) (by omega) (by omega)
theorem w_matchMessageL {σ : cS} {e : Nat} {j : Int} {t : Nat} {x s : Int} (hw : wf σ) (he : kd e = 0) (hj : -1 ≤ j ∧ j ≤ 2000) (ht : kd t = 4) (fu : Nat) (hx : -3000 ≤ x ∧ x < 100000000) (hs : -3000 ≤ s ∧ s ≤ 100000000) : wf (c_matchMessageL e j t fu x s σ) := by
  induction fu generalizing σ x s with
  | zero => exact hw
  | succ fu ih =>
    unfold c_matchMessageL
    split
    · split
      · have hw2 : wf (c_endMatch σ t).2 := w_endMatch hw ht
        have r_68 := r_endMatch (t := t) hw ht
        have hw5 : wf (c_note (c_endMatch σ t).2 e j ((c_endMatch σ t).1) (-1)) := w_note hw2 he (by omega) (by omega) (by omega)
        exact hw5
      · have hw2 : wf (c_endMatch σ t).2 := w_endMatch hw ht
        have r_68 := r_endMatch (t := t) hw ht
        have hw4 : wf (c_note (c_endMatch σ t).2 e j ((c_endMatch σ t).1) x) := w_note hw2 he (by omega) (by omega) (by omega)
        exact hw4
    · split
      · have r_38 := tagOf2 hw (kE1 he) s
        have hw6 : wf (c_tmatch σ t (c_tagOf σ (e + 1) s)).2 := w_tmatch hw ht (by omega)
        have r_41 := r_tmatch (t := t) (g := (c_tagOf σ (e + 1) s)) hw ht (by omega)
        exact ih hw6 (by omega) (by omega)
      · have r_38 := tagOf2 hw (kE1 he) s
        have hw6 : wf (c_tmatch σ t (c_tagOf σ (e + 1) s)).2 := w_tmatch hw ht (by omega)
        have r_41 := r_tmatch (t := t) (g := (c_tagOf σ (e + 1) s)) hw ht (by omega)
        have hw8 : wf (c_note (c_tmatch σ t (c_tagOf σ (e + 1) s)).2 e j ((c_tmatch σ t (c_tagOf σ (e + 1) s)).1) s) := w_note hw6 he (by omega) (by omega) (by omega)
        exact hw8
theorem w_matchMessage {σ : cS} {e : Nat} {j : Int} {t : Nat} (hw : wf σ) (he : kd e = 0) (hj : -1 ≤ j ∧ j ≤ 2000) (ht : kd t = 4) : wf (c_matchMessage σ e j t) := by
  unfold c_matchMessage
  have r_5 := hw.ra2 (kE14 he) j
  have hw1 : wf (c_startMatch σ t) := w_startMatch hw ht
  have r_18 := hw1.ra2 (kE12 he) j
  exact w_matchMessageL hw1 he hj ht (100003001) (by omega) (by omega)
def c_judgeMessage (σ : cS) (e : Nat) (j : Int) (t : Nat) : cS := (if (c_isRightReference σ e (c_referenceOfMessage σ e j) (rat (σ.1 (e + 14)) j)) = true then (if (c_isRightCount σ e (rat (σ.1 (e + 14)) j) (((rat (σ.1 (e + 14)) j) - (rat (σ.1 (e + 12)) j)) + 1)) = true then (if (c_isRepeated σ e j) = true then (c_note σ e j 7 (rat (σ.1 (e + 12)) j)) else (if (c_isEmpty σ t) = true then (c_note σ e j 3 (rat (σ.1 (e + 12)) j)) else (c_matchMessage σ e j t))) else (c_note σ e j 2 (rat (σ.1 (e + 14)) j))) else (c_note σ e j 1 (rat (σ.1 (e + 14)) j)))
theorem t_judgeMessage {l : Launch} {G : jG} {d : Nat} {σ : cS} {e : Nat} {j : Int} {t : Nat} (hw : wf σ) (hd : 5 ≤ d) (he : kd e = 0) (hj : -1 ≤ j ∧ j ≤ 2000) (ht : kd t = 4) : CJ jCls jown l G (Yx mX0_judgeMessage) d 0 0 0 [some (.ref e), some (vi j), some (.ref t), none, none] [] σ (det none (c_judgeMessage σ e j t)) := by
  refine C_aload_n dX0_judgeMessage_0 rfl ?_
  refine C_get dX0_judgeMessage_1 f_X0_23 (fun h hc => ⟨_, hc.2.2.1 _ he, rfl⟩) ?_
  refine C_iload_n dX0_judgeMessage_4 rfl ?_
  refine D_callV (As := [vi _]) (d' := 0) (row_at hw (kE12 he) (by omega)) dX0_judgeMessage_5 v_X0_93 (fun h hc => ⟨_, (hc.1 _ (kE12 he)).1⟩) rfl (Nat.le_of_ble_eq_true rfl) (by omega) (Nat.le_of_ble_eq_true rfl) ?_
  simp only [Option.toList, List.nil_append, List.cons_append]
  have r_5 := hw.ra2 (kE12 he) j
  refine C_istore_n dX0_judgeMessage_8 (by decide) rfl ?_
  simp only [List.set_cons_zero, List.set_cons_succ, jfin0, jfin1, jfin2, jfin3]
  refine C_aload_n dX0_judgeMessage_9 rfl ?_
  refine C_get dX0_judgeMessage_10 f_X0_27 (fun h hc => ⟨_, hc.2.2.1 _ he, rfl⟩) ?_
  refine C_iload_n dX0_judgeMessage_13 rfl ?_
  refine D_callV (As := [vi _]) (d' := 0) (row_at hw (kE14 he) (by omega)) dX0_judgeMessage_14 v_X0_93 (fun h hc => ⟨_, (hc.1 _ (kE14 he)).1⟩) rfl (Nat.le_of_ble_eq_true rfl) (by omega) (Nat.le_of_ble_eq_true rfl) ?_
  simp only [Option.toList, List.nil_append, List.cons_append]
  have r_14 := hw.ra2 (kE14 he) j
  refine C_istore dX0_judgeMessage_17 (by decide) rfl ?_
  simp only [List.set_cons_zero, List.set_cons_succ, jfin0, jfin1, jfin2, jfin3]
  refine C_aload_n dX0_judgeMessage_19 rfl ?_
  refine C_aload_n dX0_judgeMessage_20 rfl ?_
  refine C_iload_n dX0_judgeMessage_21 rfl ?_
  refine D_callV (As := [vi _]) (d' := 3) (t_referenceOfMessage hw (Nat.le_refl _) he (by omega)) dX0_judgeMessage_22 v_X0_136 (fun h hc => ⟨_, hc.2.2.1 _ he⟩) rfl (Nat.le_of_ble_eq_true rfl) (by omega) (Nat.le_of_ble_eq_true rfl) ?_
  simp only [Option.toList, List.nil_append, List.cons_append]
  have r_22 := r_referenceOfMessage (e := e) (j := j) hw he (by omega)
  refine C_iload dX0_judgeMessage_25 rfl ?_
  refine D_callV (As := [vi _, vi _]) (d' := 3) (t_isRightReference hw (Nat.le_refl _) he (by omega) (by omega)) dX0_judgeMessage_27 v_X0_123 (fun h hc => ⟨_, hc.2.2.1 _ he⟩) rfl (Nat.le_of_ble_eq_true rfl) (by omega) (Nat.le_of_ble_eq_true rfl) ?_
  simp only [Option.toList, List.nil_append, List.cons_append]
  refine C_if_neZ (tgt := 44) dX0_judgeMessage_30 (by decide) (fun c_30 => ?_) (fun c_30 => ?_)
  · refine C_aload_n dX0_judgeMessage_44 rfl ?_
    refine C_iload dX0_judgeMessage_45 rfl ?_
    refine C_iload dX0_judgeMessage_47 rfl ?_
    refine C_iload_n dX0_judgeMessage_49 rfl ?_
    refine C_isub dX0_judgeMessage_50 ?_
    refine C_iconst dX0_judgeMessage_51 ?_
    refine C_iadd dX0_judgeMessage_52 ?_
    refine D_callV (As := [vi _, vi _]) (d' := 3) (t_isRightCount hw (Nat.le_refl _) he (by omega) (by omega)) dX0_judgeMessage_53 v_X0_127 (fun h hc => ⟨_, hc.2.2.1 _ he⟩) rfl (Nat.le_of_ble_eq_true rfl) (by omega) (Nat.le_of_ble_eq_true rfl) ?_
    simp only [Option.toList, List.nil_append, List.cons_append]
    refine C_if_neZ (tgt := 70) dX0_judgeMessage_56 (by decide) (fun c_56 => ?_) (fun c_56 => ?_)
    · refine C_aload_n dX0_judgeMessage_70 rfl ?_
      refine C_iload_n dX0_judgeMessage_71 rfl ?_
      refine D_callV (As := [vi _]) (d' := 4) (t_isRepeated hw (Nat.le_refl _) he (by omega)) dX0_judgeMessage_72 v_X0_143 (fun h hc => ⟨_, hc.2.2.1 _ he⟩) rfl (Nat.le_of_ble_eq_true rfl) (by omega) (Nat.le_of_ble_eq_true rfl) ?_
      simp only [Option.toList, List.nil_append, List.cons_append]
      refine C_if_eqZ (tgt := 89) dX0_judgeMessage_75 (by decide) (fun c_75 => ?_) (fun c_75 => ?_)
      · refine C_aload_n dX0_judgeMessage_89 rfl ?_
        refine C_ifnull dX0_judgeMessage_90 ?_
        refine C_aload_n dX0_judgeMessage_93 rfl ?_
        refine D_callV (As := []) (d' := 1) (t_isEmpty hw (Nat.le_refl _) ht) dX0_judgeMessage_94 v_X0_146 (fun h hc => ⟨_, hc.2.2.2.1 _ ht⟩) rfl (Nat.le_of_ble_eq_true rfl) (by omega) (Nat.le_of_ble_eq_true rfl) ?_
        simp only [Option.toList, List.nil_append, List.cons_append]
        refine C_if_eqZ (tgt := 110) dX0_judgeMessage_97 (by decide) (fun c_97 => ?_) (fun c_97 => ?_)
        · refine C_aload_n dX0_judgeMessage_110 rfl ?_
          refine C_iload_n dX0_judgeMessage_111 rfl ?_
          refine C_aload_n dX0_judgeMessage_112 rfl ?_
          refine D_callV (As := [vi _, .ref _]) (d' := 4) (t_matchMessage hw (Nat.le_refl _) he (by omega) ht) dX0_judgeMessage_113 v_X0_151 (fun h hc => ⟨_, hc.2.2.1 _ he⟩) rfl (Nat.le_of_ble_eq_true rfl) (by omega) (Nat.le_of_ble_eq_true rfl) ?_
          simp only [Option.toList, List.nil_append, List.cons_append]
          have hw5 : wf (c_matchMessage σ e j t) := w_matchMessage hw he (by omega) ht
          refine C_vret dX0_judgeMessage_116 rfl ⟨rfl, ?_⟩
          rw [c_judgeMessage, if_pos c_30, if_pos c_56, if_neg (by rw [c_75]; decide), if_neg (by rw [c_97]; decide)]
        · refine C_aload_n dX0_judgeMessage_100 rfl ?_
          refine C_iload_n dX0_judgeMessage_101 rfl ?_
          refine C_iconst dX0_judgeMessage_102 ?_
          refine C_iload_n dX0_judgeMessage_103 rfl ?_
          refine D_callV (As := [vi _, vi _, vi _]) (d' := 1) (t_note hw (Nat.le_refl _) he (by omega) (by omega) (by omega)) dX0_judgeMessage_104 v_X0_139 (fun h hc => ⟨_, hc.2.2.1 _ he⟩) rfl (Nat.le_of_ble_eq_true rfl) (by omega) (Nat.le_of_ble_eq_true rfl) ?_
          simp only [Option.toList, List.nil_append, List.cons_append]
          have hw6 : wf (c_note σ e j 3 (rat (σ.1 (e + 12)) j)) := w_note hw he (by omega) (by omega) (by omega)
          refine C_goto (tgt := 116) dX0_judgeMessage_107 (by decide) ?_
          refine C_vret dX0_judgeMessage_116 rfl ⟨rfl, ?_⟩
          rw [c_judgeMessage, if_pos c_30, if_pos c_56, if_neg (by rw [c_75]; decide), if_pos c_97]
      · refine C_aload_n dX0_judgeMessage_78 rfl ?_
        refine C_iload_n dX0_judgeMessage_79 rfl ?_
        refine C_bipush dX0_judgeMessage_80 (by decide) ?_
        refine C_iload_n dX0_judgeMessage_82 rfl ?_
        refine D_callV (As := [vi _, vi _, vi _]) (d' := 1) (t_note hw (Nat.le_refl _) he (by omega) (by omega) (by omega)) dX0_judgeMessage_83 v_X0_139 (fun h hc => ⟨_, hc.2.2.1 _ he⟩) rfl (Nat.le_of_ble_eq_true rfl) (by omega) (Nat.le_of_ble_eq_true rfl) ?_
        simp only [Option.toList, List.nil_append, List.cons_append]
        have hw7 : wf (c_note σ e j 7 (rat (σ.1 (e + 12)) j)) := w_note hw he (by omega) (by omega) (by omega)
        refine C_goto (tgt := 116) dX0_judgeMessage_86 (by decide) ?_
        refine C_vret dX0_judgeMessage_116 rfl ⟨rfl, ?_⟩
        rw [c_judgeMessage, if_pos c_30, if_pos c_56, if_pos c_75]
    · refine C_aload_n dX0_judgeMessage_59 rfl ?_
      refine C_iload_n dX0_judgeMessage_60 rfl ?_
      refine C_iconst dX0_judgeMessage_61 ?_
      refine C_iload dX0_judgeMessage_62 rfl ?_
      refine D_callV (As := [vi _, vi _, vi _]) (d' := 1) (t_note hw (Nat.le_refl _) he (by omega) (by omega) (by omega)) dX0_judgeMessage_64 v_X0_139 (fun h hc => ⟨_, hc.2.2.1 _ he⟩) rfl (Nat.le_of_ble_eq_true rfl) (by omega) (Nat.le_of_ble_eq_true rfl) ?_
      simp only [Option.toList, List.nil_append, List.cons_append]
      have hw8 : wf (c_note σ e j 2 (rat (σ.1 (e + 14)) j)) := w_note hw he (by omega) (by omega) (by omega)
      refine C_goto (tgt := 116) dX0_judgeMessage_67 (by decide) ?_
      refine C_vret dX0_judgeMessage_116 rfl ⟨rfl, ?_⟩
      rw [c_judgeMessage, if_pos c_30, if_neg (by rw [c_56]; decide)]
  · refine C_aload_n dX0_judgeMessage_33 rfl ?_
    refine C_iload_n dX0_judgeMessage_34 rfl ?_
    refine C_iconst dX0_judgeMessage_35 ?_
    refine C_iload dX0_judgeMessage_36 rfl ?_
    refine D_callV (As := [vi _, vi _, vi _]) (d' := 1) (t_note hw (Nat.le_refl _) he (by omega) (by omega) (by omega)) dX0_judgeMessage_38 v_X0_139 (fun h hc => ⟨_, hc.2.2.1 _ he⟩) rfl (Nat.le_of_ble_eq_true rfl) (by omega) (Nat.le_of_ble_eq_true rfl) ?_
    simp only [Option.toList, List.nil_append, List.cons_append]
    have hw9 : wf (c_note σ e j 1 (rat (σ.1 (e + 14)) j)) := w_note hw he (by omega) (by omega) (by omega)
    refine C_goto (tgt := 116) dX0_judgeMessage_41 (by decide) ?_
    refine C_vret dX0_judgeMessage_116 rfl ⟨rfl, ?_⟩
    rw [c_judgeMessage, if_neg (by rw [c_30]; decide)]
theorem w_judgeMessage {σ : cS} {e : Nat} {j : Int} {t : Nat} (hw : wf σ) (he : kd e = 0) (hj : -1 ≤ j ∧ j ≤ 2000) (ht : kd t = 4) : wf (c_judgeMessage σ e j t) := by
  unfold c_judgeMessage
  split
  · split
    · split
      · have r_5 := hw.ra2 (kE12 he) j
        have r_14 := hw.ra2 (kE14 he) j
        have r_22 := r_referenceOfMessage (e := e) (j := j) hw he (by omega)
        have hw7 : wf (c_note σ e j 7 (rat (σ.1 (e + 12)) j)) := w_note hw he (by omega) (by omega) (by omega)
        exact hw7
      · split
        · have r_5 := hw.ra2 (kE12 he) j
          have r_14 := hw.ra2 (kE14 he) j
          have r_22 := r_referenceOfMessage (e := e) (j := j) hw he (by omega)
          have hw6 : wf (c_note σ e j 3 (rat (σ.1 (e + 12)) j)) := w_note hw he (by omega) (by omega) (by omega)
          exact hw6
        · have r_5 := hw.ra2 (kE12 he) j
          have r_14 := hw.ra2 (kE14 he) j
          have r_22 := r_referenceOfMessage (e := e) (j := j) hw he (by omega)
          have hw5 : wf (c_matchMessage σ e j t) := w_matchMessage hw he (by omega) ht
          exact hw5
    · have r_5 := hw.ra2 (kE12 he) j
      have r_14 := hw.ra2 (kE14 he) j
      have r_22 := r_referenceOfMessage (e := e) (j := j) hw he (by omega)
      have hw8 : wf (c_note σ e j 2 (rat (σ.1 (e + 14)) j)) := w_note hw he (by omega) (by omega) (by omega)
      exact hw8
  · have r_5 := hw.ra2 (kE12 he) j
    have r_14 := hw.ra2 (kE14 he) j
    have r_22 := r_referenceOfMessage (e := e) (j := j) hw he (by omega)
    have hw9 : wf (c_note σ e j 1 (rat (σ.1 (e + 14)) j)) := w_note hw he (by omega) (by omega) (by omega)
    exact hw9
def c_judgeMessageN (σ : cS) (e : Nat) (j : Int) : cS := (if (c_isRightReference σ e (c_referenceOfMessage σ e j) (rat (σ.1 (e + 14)) j)) = true then (if (c_isRightCount σ e (rat (σ.1 (e + 14)) j) (((rat (σ.1 (e + 14)) j) - (rat (σ.1 (e + 12)) j)) + 1)) = true then (if (c_isRepeated σ e j) = true then (c_note σ e j 7 (rat (σ.1 (e + 12)) j)) else (c_note σ e j 3 (rat (σ.1 (e + 12)) j))) else (c_note σ e j 2 (rat (σ.1 (e + 14)) j))) else (c_note σ e j 1 (rat (σ.1 (e + 14)) j)))
theorem t_judgeMessageN {l : Launch} {G : jG} {d : Nat} {σ : cS} {e : Nat} {j : Int} (hw : wf σ) (hd : 5 ≤ d) (he : kd e = 0) (hj : -1 ≤ j ∧ j ≤ 2000) : CJ jCls jown l G (Yx mX0_judgeMessage) d 0 0 0 [some (.ref e), some (vi j), some .null, none, none] [] σ (det none (c_judgeMessageN σ e j)) := by
  refine C_aload_n dX0_judgeMessage_0 rfl ?_
  refine C_get dX0_judgeMessage_1 f_X0_23 (fun h hc => ⟨_, hc.2.2.1 _ he, rfl⟩) ?_
  refine C_iload_n dX0_judgeMessage_4 rfl ?_
  refine D_callV (As := [vi _]) (d' := 0) (row_at hw (kE12 he) (by omega)) dX0_judgeMessage_5 v_X0_93 (fun h hc => ⟨_, (hc.1 _ (kE12 he)).1⟩) rfl (Nat.le_of_ble_eq_true rfl) (by omega) (Nat.le_of_ble_eq_true rfl) ?_
  simp only [Option.toList, List.nil_append, List.cons_append]
  have r_5 := hw.ra2 (kE12 he) j
  refine C_istore_n dX0_judgeMessage_8 (by decide) rfl ?_
  simp only [List.set_cons_zero, List.set_cons_succ, jfin0, jfin1, jfin2, jfin3]
  refine C_aload_n dX0_judgeMessage_9 rfl ?_
  refine C_get dX0_judgeMessage_10 f_X0_27 (fun h hc => ⟨_, hc.2.2.1 _ he, rfl⟩) ?_
  refine C_iload_n dX0_judgeMessage_13 rfl ?_
  refine D_callV (As := [vi _]) (d' := 0) (row_at hw (kE14 he) (by omega)) dX0_judgeMessage_14 v_X0_93 (fun h hc => ⟨_, (hc.1 _ (kE14 he)).1⟩) rfl (Nat.le_of_ble_eq_true rfl) (by omega) (Nat.le_of_ble_eq_true rfl) ?_
  simp only [Option.toList, List.nil_append, List.cons_append]
  have r_14 := hw.ra2 (kE14 he) j
  refine C_istore dX0_judgeMessage_17 (by decide) rfl ?_
  simp only [List.set_cons_zero, List.set_cons_succ, jfin0, jfin1, jfin2, jfin3]
  refine C_aload_n dX0_judgeMessage_19 rfl ?_
  refine C_aload_n dX0_judgeMessage_20 rfl ?_
  refine C_iload_n dX0_judgeMessage_21 rfl ?_
  refine D_callV (As := [vi _]) (d' := 3) (t_referenceOfMessage hw (Nat.le_refl _) he (by omega)) dX0_judgeMessage_22 v_X0_136 (fun h hc => ⟨_, hc.2.2.1 _ he⟩) rfl (Nat.le_of_ble_eq_true rfl) (by omega) (Nat.le_of_ble_eq_true rfl) ?_
  simp only [Option.toList, List.nil_append, List.cons_append]
  have r_22 := r_referenceOfMessage (e := e) (j := j) hw he (by omega)
  refine C_iload dX0_judgeMessage_25 rfl ?_
  refine D_callV (As := [vi _, vi _]) (d' := 3) (t_isRightReference hw (Nat.le_refl _) he (by omega) (by omega)) dX0_judgeMessage_27 v_X0_123 (fun h hc => ⟨_, hc.2.2.1 _ he⟩) rfl (Nat.le_of_ble_eq_true rfl) (by omega) (Nat.le_of_ble_eq_true rfl) ?_
  simp only [Option.toList, List.nil_append, List.cons_append]
  refine C_if_neZ (tgt := 44) dX0_judgeMessage_30 (by decide) (fun c_30 => ?_) (fun c_30 => ?_)
  · refine C_aload_n dX0_judgeMessage_44 rfl ?_
    refine C_iload dX0_judgeMessage_45 rfl ?_
    refine C_iload dX0_judgeMessage_47 rfl ?_
    refine C_iload_n dX0_judgeMessage_49 rfl ?_
    refine C_isub dX0_judgeMessage_50 ?_
    refine C_iconst dX0_judgeMessage_51 ?_
    refine C_iadd dX0_judgeMessage_52 ?_
    refine D_callV (As := [vi _, vi _]) (d' := 3) (t_isRightCount hw (Nat.le_refl _) he (by omega) (by omega)) dX0_judgeMessage_53 v_X0_127 (fun h hc => ⟨_, hc.2.2.1 _ he⟩) rfl (Nat.le_of_ble_eq_true rfl) (by omega) (Nat.le_of_ble_eq_true rfl) ?_
    simp only [Option.toList, List.nil_append, List.cons_append]
    refine C_if_neZ (tgt := 70) dX0_judgeMessage_56 (by decide) (fun c_56 => ?_) (fun c_56 => ?_)
    · refine C_aload_n dX0_judgeMessage_70 rfl ?_
      refine C_iload_n dX0_judgeMessage_71 rfl ?_
      refine D_callV (As := [vi _]) (d' := 4) (t_isRepeated hw (Nat.le_refl _) he (by omega)) dX0_judgeMessage_72 v_X0_143 (fun h hc => ⟨_, hc.2.2.1 _ he⟩) rfl (Nat.le_of_ble_eq_true rfl) (by omega) (Nat.le_of_ble_eq_true rfl) ?_
      simp only [Option.toList, List.nil_append, List.cons_append]
      refine C_if_eqZ (tgt := 89) dX0_judgeMessage_75 (by decide) (fun c_75 => ?_) (fun c_75 => ?_)
      · refine C_aload_nN dX0_judgeMessage_89 rfl ?_
        refine C_ifnullN (tgt := 100) dX0_judgeMessage_90 (by decide) ?_
        refine C_aload_n dX0_judgeMessage_100 rfl ?_
        refine C_iload_n dX0_judgeMessage_101 rfl ?_
        refine C_iconst dX0_judgeMessage_102 ?_
        refine C_iload_n dX0_judgeMessage_103 rfl ?_
        refine D_callV (As := [vi _, vi _, vi _]) (d' := 1) (t_note hw (Nat.le_refl _) he (by omega) (by omega) (by omega)) dX0_judgeMessage_104 v_X0_139 (fun h hc => ⟨_, hc.2.2.1 _ he⟩) rfl (Nat.le_of_ble_eq_true rfl) (by omega) (Nat.le_of_ble_eq_true rfl) ?_
        simp only [Option.toList, List.nil_append, List.cons_append]
        have hw4 : wf (c_note σ e j 3 (rat (σ.1 (e + 12)) j)) := w_note hw he (by omega) (by omega) (by omega)
        refine C_goto (tgt := 116) dX0_judgeMessage_107 (by decide) ?_
        refine C_vret dX0_judgeMessage_116 rfl ⟨rfl, ?_⟩
        rw [c_judgeMessageN, if_pos c_30, if_pos c_56, if_neg (by rw [c_75]; decide)]
      · refine C_aload_n dX0_judgeMessage_78 rfl ?_
        refine C_iload_n dX0_judgeMessage_79 rfl ?_
        refine C_bipush dX0_judgeMessage_80 (by decide) ?_
        refine C_iload_n dX0_judgeMessage_82 rfl ?_
        refine D_callV (As := [vi _, vi _, vi _]) (d' := 1) (t_note hw (Nat.le_refl _) he (by omega) (by omega) (by omega)) dX0_judgeMessage_83 v_X0_139 (fun h hc => ⟨_, hc.2.2.1 _ he⟩) rfl (Nat.le_of_ble_eq_true rfl) (by omega) (Nat.le_of_ble_eq_true rfl) ?_
        simp only [Option.toList, List.nil_append, List.cons_append]
        have hw5 : wf (c_note σ e j 7 (rat (σ.1 (e + 12)) j)) := w_note hw he (by omega) (by omega) (by omega)
        refine C_goto (tgt := 116) dX0_judgeMessage_86 (by decide) ?_
        refine C_vret dX0_judgeMessage_116 rfl ⟨rfl, ?_⟩
        rw [c_judgeMessageN, if_pos c_30, if_pos c_56, if_pos c_75]
    · refine C_aload_n dX0_judgeMessage_59 rfl ?_
      refine C_iload_n dX0_judgeMessage_60 rfl ?_
      refine C_iconst dX0_judgeMessage_61 ?_
      refine C_iload dX0_judgeMessage_62 rfl ?_
      refine D_callV (As := [vi _, vi _, vi _]) (d' := 1) (t_note hw (Nat.le_refl _) he (by omega) (by omega) (by omega)) dX0_judgeMessage_64 v_X0_139 (fun h hc => ⟨_, hc.2.2.1 _ he⟩) rfl (Nat.le_of_ble_eq_true rfl) (by omega) (Nat.le_of_ble_eq_true rfl) ?_
      simp only [Option.toList, List.nil_append, List.cons_append]
      have hw6 : wf (c_note σ e j 2 (rat (σ.1 (e + 14)) j)) := w_note hw he (by omega) (by omega) (by omega)
      refine C_goto (tgt := 116) dX0_judgeMessage_67 (by decide) ?_
      refine C_vret dX0_judgeMessage_116 rfl ⟨rfl, ?_⟩
      rw [c_judgeMessageN, if_pos c_30, if_neg (by rw [c_56]; decide)]
  · refine C_aload_n dX0_judgeMessage_33 rfl ?_
    refine C_iload_n dX0_judgeMessage_34 rfl ?_
    refine C_iconst dX0_judgeMessage_35 ?_
    refine C_iload dX0_judgeMessage_36 rfl ?_
    refine D_callV (As := [vi _, vi _, vi _]) (d' := 1) (t_note hw (Nat.le_refl _) he (by omega) (by omega) (by omega)) dX0_judgeMessage_38 v_X0_139 (fun h hc => ⟨_, hc.2.2.1 _ he⟩) rfl (Nat.le_of_ble_eq_true rfl) (by omega) (Nat.le_of_ble_eq_true rfl) ?_
    simp only [Option.toList, List.nil_append, List.cons_append]
    have hw7 : wf (c_note σ e j 1 (rat (σ.1 (e + 14)) j)) := w_note hw he (by omega) (by omega) (by omega)
    refine C_goto (tgt := 116) dX0_judgeMessage_41 (by decide) ?_
    refine C_vret dX0_judgeMessage_116 rfl ⟨rfl, ?_⟩
    rw [c_judgeMessageN, if_neg (by rw [c_30]; decide)]
theorem w_judgeMessageN {σ : cS} {e : Nat} {j : Int} (hw : wf σ) (he : kd e = 0) (hj : -1 ≤ j ∧ j ≤ 2000) : wf (c_judgeMessageN σ e j) := by
  unfold c_judgeMessageN
  split
  · split
    · split
      · have r_5 := hw.ra2 (kE12 he) j
        have r_14 := hw.ra2 (kE14 he) j
        have r_22 := r_referenceOfMessage (e := e) (j := j) hw he (by omega)
        have hw5 : wf (c_note σ e j 7 (rat (σ.1 (e + 12)) j)) := w_note hw he (by omega) (by omega) (by omega)
        exact hw5
      · have r_5 := hw.ra2 (kE12 he) j
        have r_14 := hw.ra2 (kE14 he) j
        have r_22 := r_referenceOfMessage (e := e) (j := j) hw he (by omega)
        have hw4 : wf (c_note σ e j 3 (rat (σ.1 (e + 12)) j)) := w_note hw he (by omega) (by omega) (by omega)
        exact hw4
    · have r_5 := hw.ra2 (kE12 he) j
      have r_14 := hw.ra2 (kE14 he) j
      have r_22 := r_referenceOfMessage (e := e) (j := j) hw he (by omega)
      have hw6 : wf (c_note σ e j 2 (rat (σ.1 (e + 14)) j)) := w_note hw he (by omega) (by omega) (by omega)
      exact hw6
  · have r_5 := hw.ra2 (kE12 he) j
    have r_14 := hw.ra2 (kE14 he) j
    have r_22 := r_referenceOfMessage (e := e) (j := j) hw he (by omega)
    have hw7 : wf (c_note σ e j 1 (rat (σ.1 (e + 14)) j)) := w_note hw he (by omega) (by omega) (by omega)
    exact hw7
theorem i_judgeMessageN {σ : cS} {e : Nat} {j : Int} : (c_judgeMessageN σ e j).2 = σ.2 := by
  unfold c_judgeMessageN
  (repeat' split) <;> simp [cadd, cput, cemp, i_addCharacter, i_addComponent, i_addElement, i_addSegment, i_eempty, i_finish, i_note, i_pempty, i_tadd]
def c_judgeEndsL (e : Nat) : Nat → Int → cS → cS
  | 0, _, σ => σ
  | fu + 1, k, σ => (if (σ.1 (e + 22)).length ≤ k then σ else (c_judgeEndsL e fu (k + 1) (cput σ (e + 28) k (c_codeOfEnd σ e (c_referenceOfGroup σ e k) (rat (σ.1 (e + 24)) k) (rat (σ.1 (e + 26)) k)))))
def c_judgeEnds (σ : cS) (e : Nat) : cS := (if (σ.1 (e + 22)).length ≤ 0 then (c_judgeEndsL e (2001) 0 (cI σ e 10 (c_codeOfEnd σ e (c_reference σ e) ((c_segmentCount σ (e + 1)) - 1) ((σ.1 (e + 12)).length)))) else (c_judgeEndsL e (2001) 0 (cI σ e 10 (c_codeOfEnd σ e (c_reference σ e) ((c_segmentCount σ (e + 1)) - 1) ((σ.1 (e + 22)).length)))))
theorem t_judgeEndsL {l : Launch} {G : jG} {d : Nat} {σ : cS} {e : Nat} {k : Int} (hw : wf σ) (hd : 5 ≤ d) (he : kd e = 0) (fu : Nat) (hk : 0 ≤ k ∧ k ≤ 2000) (hm : 2000 - k < (fu : Int)) : CJ jCls jown l G (Yx mX0_judgeEnds) d 0 0 52 [some (.ref e), none, some (vi k), none] [] σ (det none (c_judgeEndsL e fu k σ)) := by
  induction fu generalizing σ k with
  | zero => exact absurd hm (by omega)
  | succ fu ih =>
    refine C_iload_n dX0_judgeEnds_52 rfl ?_
    refine C_aload_n dX0_judgeEnds_53 rfl ?_
    refine C_get dX0_judgeEnds_54 f_X0_39 (fun h hc => ⟨_, hc.2.2.1 _ he, rfl⟩) ?_
    refine D_callV (As := []) (d' := 0) (row_size hw (kE22 he)) dX0_judgeEnds_57 v_X0_80 (fun h hc => ⟨_, (hc.1 _ (kE22 he)).1⟩) rfl (Nat.le_of_ble_eq_true rfl) (by omega) (Nat.le_of_ble_eq_true rfl) ?_
    simp only [Option.toList, List.nil_append, List.cons_append]
    have r_57 := hw.len (kE22 he)
    refine C_icmp_ge (tgt := 104) dX0_judgeEnds_60 (by decide) (by omega) (by omega) (fun c_60 => ?_) (fun c_60 => ?_)
    · refine C_vret dX0_judgeEnds_104 rfl ⟨rfl, ?_⟩
      rw [c_judgeEndsL, if_pos (by omega)]
    · refine C_aload_n dX0_judgeEnds_63 rfl ?_
      refine C_aload_n dX0_judgeEnds_64 rfl ?_
      refine C_iload_n dX0_judgeEnds_65 rfl ?_
      refine D_callV (As := [vi _]) (d' := 3) (t_referenceOfGroup hw (Nat.le_refl _) he (by omega)) dX0_judgeEnds_66 v_X0_116 (fun h hc => ⟨_, hc.2.2.1 _ he⟩) rfl (Nat.le_of_ble_eq_true rfl) (by omega) (Nat.le_of_ble_eq_true rfl) ?_
      simp only [Option.toList, List.nil_append, List.cons_append]
      have r_66 := r_referenceOfGroup (e := e) (g := k) hw he (by omega)
      refine C_aload_n dX0_judgeEnds_69 rfl ?_
      refine C_get dX0_judgeEnds_70 f_X0_42 (fun h hc => ⟨_, hc.2.2.1 _ he, rfl⟩) ?_
      refine C_iload_n dX0_judgeEnds_73 rfl ?_
      refine D_callV (As := [vi _]) (d' := 0) (row_at hw (kE24 he) (by omega)) dX0_judgeEnds_74 v_X0_93 (fun h hc => ⟨_, (hc.1 _ (kE24 he)).1⟩) rfl (Nat.le_of_ble_eq_true rfl) (by omega) (Nat.le_of_ble_eq_true rfl) ?_
      simp only [Option.toList, List.nil_append, List.cons_append]
      have r_74 := hw.ra2 (kE24 he) k
      refine C_aload_n dX0_judgeEnds_77 rfl ?_
      refine C_get dX0_judgeEnds_78 f_X0_45 (fun h hc => ⟨_, hc.2.2.1 _ he, rfl⟩) ?_
      refine C_iload_n dX0_judgeEnds_81 rfl ?_
      refine D_callV (As := [vi _]) (d' := 0) (row_at hw (kE26 he) (by omega)) dX0_judgeEnds_82 v_X0_93 (fun h hc => ⟨_, (hc.1 _ (kE26 he)).1⟩) rfl (Nat.le_of_ble_eq_true rfl) (by omega) (Nat.le_of_ble_eq_true rfl) ?_
      simp only [Option.toList, List.nil_append, List.cons_append]
      have r_82 := hw.ra2 (kE26 he) k
      refine D_callV (As := [vi _, vi _, vi _]) (d' := 4) (t_codeOfEnd hw (Nat.le_refl _) he (by omega) (by omega) (by omega)) dX0_judgeEnds_85 v_X0_113 (fun h hc => ⟨_, hc.2.2.1 _ he⟩) rfl (Nat.le_of_ble_eq_true rfl) (by omega) (Nat.le_of_ble_eq_true rfl) ?_
      simp only [Option.toList, List.nil_append, List.cons_append]
      have r_85 := r_codeOfEnd (e := e) (a := (c_referenceOfGroup σ e k)) (n := (rat (σ.1 (e + 24)) k)) (u := (rat (σ.1 (e + 26)) k)) hw he (by omega) (by omega) (by omega)
      refine C_istore_n dX0_judgeEnds_88 (by decide) rfl ?_
      simp only [List.set_cons_zero, List.set_cons_succ, jfin0, jfin1, jfin2, jfin3]
      refine C_aload_n dX0_judgeEnds_89 rfl ?_
      refine C_get dX0_judgeEnds_90 f_X0_48 (fun h hc => ⟨_, hc.2.2.1 _ he, rfl⟩) ?_
      refine C_iload_n dX0_judgeEnds_93 rfl ?_
      refine C_iload_n dX0_judgeEnds_94 rfl ?_
      refine D_callV (As := [vi _, vi _]) (d' := 0) (row_put hw (kE28 he) (by omega) (by omega)) dX0_judgeEnds_95 v_X0_119 (fun h hc => ⟨_, (hc.1 _ (kE28 he)).1⟩) rfl (Nat.le_of_ble_eq_true rfl) (by omega) (Nat.le_of_ble_eq_true rfl) ?_
      simp only [Option.toList, List.nil_append, List.cons_append]
      have hw2 : wf (cput σ (e + 28) k (c_codeOfEnd σ e (c_referenceOfGroup σ e k) (rat (σ.1 (e + 24)) k) (rat (σ.1 (e + 26)) k))) := wf_put hw (by omega)
      refine C_iinc dX0_judgeEnds_98 rfl (by decide) rfl ?_
      simp only [List.set_cons_zero, List.set_cons_succ]
      refine C_goto (tgt := 52) dX0_judgeEnds_101 (by decide) ?_
      rw [c_judgeEndsL, if_neg (by omega)]
      refine CJ.mono (ls' := [some (.ref e), none, some (vi (k + 1)), none]) (lsub_ok (by repeat (first | exact trivial | refine ⟨rfl, ?_⟩))) (fun _ _ q => q) ?_
      exact ih hw2 (by omega) (by omega)
theorem t_judgeEnds {l : Launch} {G : jG} {d : Nat} {σ : cS} {e : Nat} (hw : wf σ) (hd : 5 ≤ d) (he : kd e = 0) : CJ jCls jown l G (Yx mX0_judgeEnds) d 0 0 0 [some (.ref e), none, none, none] [] σ (det none (c_judgeEnds σ e)) := by
  refine C_aload_n dX0_judgeEnds_0 rfl ?_
  refine C_get dX0_judgeEnds_1 f_X0_39 (fun h hc => ⟨_, hc.2.2.1 _ he, rfl⟩) ?_
  refine D_callV (As := []) (d' := 0) (row_size hw (kE22 he)) dX0_judgeEnds_4 v_X0_80 (fun h hc => ⟨_, (hc.1 _ (kE22 he)).1⟩) rfl (Nat.le_of_ble_eq_true rfl) (by omega) (Nat.le_of_ble_eq_true rfl) ?_
  simp only [Option.toList, List.nil_append, List.cons_append]
  have r_4 := hw.len (kE22 he)
  refine C_if_le (tgt := 20) dX0_judgeEnds_7 (by decide) (by omega) (fun c_7 => ?_) (fun c_7 => ?_)
  · refine C_aload_n dX0_judgeEnds_20 rfl ?_
    refine C_get dX0_judgeEnds_21 f_X0_23 (fun h hc => ⟨_, hc.2.2.1 _ he, rfl⟩) ?_
    refine D_callV (As := []) (d' := 0) (row_size hw (kE12 he)) dX0_judgeEnds_24 v_X0_80 (fun h hc => ⟨_, (hc.1 _ (kE12 he)).1⟩) rfl (Nat.le_of_ble_eq_true rfl) (by omega) (Nat.le_of_ble_eq_true rfl) ?_
    simp only [Option.toList, List.nil_append, List.cons_append]
    have r_24 := hw.len (kE12 he)
    refine C_istore_n dX0_judgeEnds_27 (by decide) rfl ?_
    simp only [List.set_cons_zero, List.set_cons_succ, jfin0, jfin1, jfin2, jfin3]
    refine C_aload_n dX0_judgeEnds_28 rfl ?_
    refine C_aload_n dX0_judgeEnds_29 rfl ?_
    refine C_aload_n dX0_judgeEnds_30 rfl ?_
    refine D_callV (As := []) (d' := 3) (t_reference hw (Nat.le_refl _) he) dX0_judgeEnds_31 v_X0_110 (fun h hc => ⟨_, hc.2.2.1 _ he⟩) rfl (Nat.le_of_ble_eq_true rfl) (by omega) (Nat.le_of_ble_eq_true rfl) ?_
    simp only [Option.toList, List.nil_append, List.cons_append]
    have r_31 := r_reference (e := e) hw he
    refine C_aload_n dX0_judgeEnds_34 rfl ?_
    refine C_get dX0_judgeEnds_35 f_X0_12 (fun h hc => ⟨_, hc.2.2.1 _ he, rfl⟩) ?_
    refine D_callV (As := []) (d' := 1) (t_segmentCount hw (Nat.le_refl _) (kE1 he)) dX0_judgeEnds_38 v_X0_61 (fun h hc => ⟨_, hc.2.1 _ (kE1 he)⟩) rfl (Nat.le_of_ble_eq_true rfl) (by omega) (Nat.le_of_ble_eq_true rfl) ?_
    simp only [Option.toList, List.nil_append, List.cons_append]
    have r_38 := r_segmentCount (p := e + 1) hw (kE1 he)
    refine C_iconst dX0_judgeEnds_41 ?_
    refine C_isub dX0_judgeEnds_42 ?_
    refine C_iload_n dX0_judgeEnds_43 rfl ?_
    refine D_callV (As := [vi _, vi _, vi _]) (d' := 4) (t_codeOfEnd hw (Nat.le_refl _) he (by omega) (by omega) (by omega)) dX0_judgeEnds_44 v_X0_113 (fun h hc => ⟨_, hc.2.2.1 _ he⟩) rfl (Nat.le_of_ble_eq_true rfl) (by omega) (Nat.le_of_ble_eq_true rfl) ?_
    simp only [Option.toList, List.nil_append, List.cons_append]
    have r_44 := r_codeOfEnd (e := e) (a := (c_reference σ e)) (n := ((c_segmentCount σ (e + 1)) - 1)) (u := (σ.1 (e + 12)).length) hw he (by omega) (by omega) (by omega)
    refine C_put (σ' := (cI σ e 10 (c_codeOfEnd σ e (c_reference σ e) ((c_segmentCount σ (e + 1)) - 1) ((σ.1 (e + 12)).length)))) dX0_judgeEnds_47 f_X0_51 jfit_i (ownE he) (fun h hc => hc.putE10 he) ?_
    have hw2 : wf (cI σ e 10 (c_codeOfEnd σ e (c_reference σ e) ((c_segmentCount σ (e + 1)) - 1) ((σ.1 (e + 12)).length))) := wf_I hw (by omega)
    refine C_iconst dX0_judgeEnds_50 ?_
    refine C_istore_n dX0_judgeEnds_51 (by decide) rfl ?_
    simp only [List.set_cons_zero, List.set_cons_succ, jfin0, jfin1, jfin2, jfin3]
    rw [c_judgeEnds, if_pos (by omega)]
    refine CJ.mono (ls' := [some (.ref e), none, some (vi 0), none]) (lsub_ok (by repeat (first | exact trivial | refine ⟨rfl, ?_⟩))) (fun _ _ q => q) ?_
    exact t_judgeEndsL hw2 hd he (2001) (by omega) (by omega)
  · refine C_aload_n dX0_judgeEnds_10 rfl ?_
    refine C_get dX0_judgeEnds_11 f_X0_39 (fun h hc => ⟨_, hc.2.2.1 _ he, rfl⟩) ?_
    refine D_callV (As := []) (d' := 0) (row_size hw (kE22 he)) dX0_judgeEnds_14 v_X0_80 (fun h hc => ⟨_, (hc.1 _ (kE22 he)).1⟩) rfl (Nat.le_of_ble_eq_true rfl) (by omega) (Nat.le_of_ble_eq_true rfl) ?_
    simp only [Option.toList, List.nil_append, List.cons_append]
    have r_14 := hw.len (kE22 he)
    refine C_goto (tgt := 27) dX0_judgeEnds_17 (by decide) ?_
    refine C_istore_n dX0_judgeEnds_27 (by decide) rfl ?_
    simp only [List.set_cons_zero, List.set_cons_succ, jfin0, jfin1, jfin2, jfin3]
    refine C_aload_n dX0_judgeEnds_28 rfl ?_
    refine C_aload_n dX0_judgeEnds_29 rfl ?_
    refine C_aload_n dX0_judgeEnds_30 rfl ?_
    refine D_callV (As := []) (d' := 3) (t_reference hw (Nat.le_refl _) he) dX0_judgeEnds_31 v_X0_110 (fun h hc => ⟨_, hc.2.2.1 _ he⟩) rfl (Nat.le_of_ble_eq_true rfl) (by omega) (Nat.le_of_ble_eq_true rfl) ?_
    simp only [Option.toList, List.nil_append, List.cons_append]
    have r_31 := r_reference (e := e) hw he
    refine C_aload_n dX0_judgeEnds_34 rfl ?_
    refine C_get dX0_judgeEnds_35 f_X0_12 (fun h hc => ⟨_, hc.2.2.1 _ he, rfl⟩) ?_
    refine D_callV (As := []) (d' := 1) (t_segmentCount hw (Nat.le_refl _) (kE1 he)) dX0_judgeEnds_38 v_X0_61 (fun h hc => ⟨_, hc.2.1 _ (kE1 he)⟩) rfl (Nat.le_of_ble_eq_true rfl) (by omega) (Nat.le_of_ble_eq_true rfl) ?_
    simp only [Option.toList, List.nil_append, List.cons_append]
    have r_38 := r_segmentCount (p := e + 1) hw (kE1 he)
    refine C_iconst dX0_judgeEnds_41 ?_
    refine C_isub dX0_judgeEnds_42 ?_
    refine C_iload_n dX0_judgeEnds_43 rfl ?_
    refine D_callV (As := [vi _, vi _, vi _]) (d' := 4) (t_codeOfEnd hw (Nat.le_refl _) he (by omega) (by omega) (by omega)) dX0_judgeEnds_44 v_X0_113 (fun h hc => ⟨_, hc.2.2.1 _ he⟩) rfl (Nat.le_of_ble_eq_true rfl) (by omega) (Nat.le_of_ble_eq_true rfl) ?_
    simp only [Option.toList, List.nil_append, List.cons_append]
    have r_44 := r_codeOfEnd (e := e) (a := (c_reference σ e)) (n := ((c_segmentCount σ (e + 1)) - 1)) (u := (σ.1 (e + 22)).length) hw he (by omega) (by omega) (by omega)
    refine C_put (σ' := (cI σ e 10 (c_codeOfEnd σ e (c_reference σ e) ((c_segmentCount σ (e + 1)) - 1) ((σ.1 (e + 22)).length)))) dX0_judgeEnds_47 f_X0_51 jfit_i (ownE he) (fun h hc => hc.putE10 he) ?_
    have hw3 : wf (cI σ e 10 (c_codeOfEnd σ e (c_reference σ e) ((c_segmentCount σ (e + 1)) - 1) ((σ.1 (e + 22)).length))) := wf_I hw (by omega)
    refine C_iconst dX0_judgeEnds_50 ?_
    refine C_istore_n dX0_judgeEnds_51 (by decide) rfl ?_
    simp only [List.set_cons_zero, List.set_cons_succ, jfin0, jfin1, jfin2, jfin3]
    rw [c_judgeEnds, if_neg (by omega)]
    refine CJ.mono (ls' := [some (.ref e), none, some (vi 0), none]) (lsub_ok (by repeat (first | exact trivial | refine ⟨rfl, ?_⟩))) (fun _ _ q => q) ?_
    exact t_judgeEndsL hw3 hd he (2001) (by omega) (by omega)
theorem w_judgeEndsL {σ : cS} {e : Nat} {k : Int} (hw : wf σ) (he : kd e = 0) (fu : Nat) (hk : 0 ≤ k ∧ k ≤ 2000) : wf (c_judgeEndsL e fu k σ) := by
  induction fu generalizing σ k with
  | zero => exact hw
  | succ fu ih =>
    unfold c_judgeEndsL
    split
    · have r_57 := hw.len (kE22 he)
      exact hw
    · have r_57 := hw.len (kE22 he)
      have r_66 := r_referenceOfGroup (e := e) (g := k) hw he (by omega)
      have r_74 := hw.ra2 (kE24 he) k
      have r_82 := hw.ra2 (kE26 he) k
      have r_85 := r_codeOfEnd (e := e) (a := (c_referenceOfGroup σ e k)) (n := (rat (σ.1 (e + 24)) k)) (u := (rat (σ.1 (e + 26)) k)) hw he (by omega) (by omega) (by omega)
      have hw2 : wf (cput σ (e + 28) k (c_codeOfEnd σ e (c_referenceOfGroup σ e k) (rat (σ.1 (e + 24)) k) (rat (σ.1 (e + 26)) k))) := wf_put hw (by omega)
      exact ih hw2 (by omega)
theorem w_judgeEnds {σ : cS} {e : Nat} (hw : wf σ) (he : kd e = 0) : wf (c_judgeEnds σ e) := by
  unfold c_judgeEnds
  split
  · have r_4 := hw.len (kE22 he)
    have r_24 := hw.len (kE12 he)
    have r_31 := r_reference (e := e) hw he
    have r_38 := r_segmentCount (p := e + 1) hw (kE1 he)
    have r_44 := r_codeOfEnd (e := e) (a := (c_reference σ e)) (n := ((c_segmentCount σ (e + 1)) - 1)) (u := (σ.1 (e + 12)).length) hw he (by omega) (by omega) (by omega)
    have hw2 : wf (cI σ e 10 (c_codeOfEnd σ e (c_reference σ e) ((c_segmentCount σ (e + 1)) - 1) ((σ.1 (e + 12)).length))) := wf_I hw (by omega)
    exact w_judgeEndsL hw2 he (2001) (by omega)
  · have r_4 := hw.len (kE22 he)
    have r_14 := hw.len (kE22 he)
    have r_31 := r_reference (e := e) hw he
    have r_38 := r_segmentCount (p := e + 1) hw (kE1 he)
    have r_44 := r_codeOfEnd (e := e) (a := (c_reference σ e)) (n := ((c_segmentCount σ (e + 1)) - 1)) (u := (σ.1 (e + 22)).length) hw he (by omega) (by omega) (by omega)
    have hw3 : wf (cI σ e 10 (c_codeOfEnd σ e (c_reference σ e) ((c_segmentCount σ (e + 1)) - 1) ((σ.1 (e + 22)).length))) := wf_I hw (by omega)
    exact w_judgeEndsL hw3 he (2001) (by omega)
def c_takeMessageL (e : Nat) (g : Int) : Nat → Int → Int → cS → Bool × cS
  | 0, _, _, σ => (false, σ)
  | fu + 1, f, k, σ => (if 40 ≤ k then (if (c_tagOf σ (e + 1) (σ.2.1 e 11)) = 5590612 then (true, (cI (cadd (cadd (cadd (cadd (cadd σ (e + 12) f) (e + 14) (σ.2.1 e 11)) (e + 16) g) (e + 18) 0) (e + 20) (-1)) e 11 ((σ.2.1 e 11) + 1))) else (false, σ)) else (if (c_isEnvelopeTag σ (c_tagOf σ (e + 1) (σ.2.1 e 11))) = true then (if (c_tagOf σ (e + 1) (σ.2.1 e 11)) = 5590612 then (true, (cI (cadd (cadd (cadd (cadd (cadd σ (e + 12) f) (e + 14) (σ.2.1 e 11)) (e + 16) g) (e + 18) 0) (e + 20) (-1)) e 11 ((σ.2.1 e 11) + 1))) else (false, σ)) else (c_takeMessageL e g fu f (k + 1) (cI σ e 11 ((σ.2.1 e 11) + 1)))))
def c_takeMessage (σ : cS) (e : Nat) (g : Int) : Bool × cS := (if (c_tagOf σ (e + 1) (σ.2.1 e 11)) = 5590600 then (c_takeMessageL e g (41) (σ.2.1 e 11) 0 (cI σ e 11 ((σ.2.1 e 11) + 1))) else (false, σ))
theorem t_takeMessageL {l : Launch} {G : jG} {d : Nat} {σ : cS} {e : Nat} {g : Int} {f k : Int} (hw : wf σ) (hd : 2 ≤ d) (he : kd e = 0) (hg : -3000 ≤ g ∧ g < 100000000) (fu : Nat) (hf : -3000 ≤ f ∧ f < 100000000) (hk : 0 ≤ k ∧ k ≤ 40) (hpl : σ.2.1 e 11 ≤ 2001 + k) (hm : 40 - k < (fu : Int)) : CJ jCls jown l G (Yx mX0_takeMessage) d 0 0 35 [some (.ref e), some (vi g), some (vi f), some (vi k)] [] σ (det (some (vi (bz (c_takeMessageL e g fu f k σ).1))) (c_takeMessageL e g fu f k σ).2) := by
  induction fu generalizing σ f k with
  | zero => exact absurd hm (by omega)
  | succ fu ih =>
    refine C_iload_n dX0_takeMessage_35 rfl ?_
    refine C_bipush dX0_takeMessage_36 (by decide) ?_
    refine C_icmp_ge (tgt := 74) dX0_takeMessage_38 (by decide) (by omega) (by omega) (fun c_38 => ?_) (fun c_38 => ?_)
    · refine C_aload_n dX0_takeMessage_74 rfl ?_
      refine C_get dX0_takeMessage_75 f_X0_12 (fun h hc => ⟨_, hc.2.2.1 _ he, rfl⟩) ?_
      refine C_aload_n dX0_takeMessage_78 rfl ?_
      refine C_get dX0_takeMessage_79 f_X0_55 (fun h hc => ⟨_, hc.2.2.1 _ he, rfl⟩) ?_
      have g_79 := hw.2.2.1 e 11
      refine D_callV (As := [vi _]) (d' := 1) (t_tagOf hw (Nat.le_refl _) (kE1 he) (by omega)) dX0_takeMessage_82 v_X0_65 (fun h hc => ⟨_, hc.2.1 _ (kE1 he)⟩) rfl (Nat.le_of_ble_eq_true rfl) (by omega) (Nat.le_of_ble_eq_true rfl) ?_
      simp only [Option.toList, List.nil_append, List.cons_append]
      have r_82 := tagOf2 hw (kE1 he) (σ.2.1 e 11)
      refine C_ldc (5590612) dX0_takeMessage_85 k_X0_92 ?_
      refine C_icmp_eq (tgt := 92) dX0_takeMessage_87 (by decide) (by omega) (by omega) (fun c_87 => ?_) (fun c_87 => ?_)
      · refine C_aload_n dX0_takeMessage_92 rfl ?_
        refine C_get dX0_takeMessage_93 f_X0_23 (fun h hc => ⟨_, hc.2.2.1 _ he, rfl⟩) ?_
        refine C_iload_n dX0_takeMessage_96 rfl ?_
        refine D_callV (As := [vi _]) (d' := 0) (row_add hw (kE12 he) (by omega)) dX0_takeMessage_97 v_X0_86 (fun h hc => ⟨_, (hc.1 _ (kE12 he)).1⟩) rfl (Nat.le_of_ble_eq_true rfl) (by omega) (Nat.le_of_ble_eq_true rfl) ?_
        simp only [Option.toList, List.nil_append, List.cons_append]
        have hw3 : wf (cadd σ (e + 12) f) := wf_add hw (by omega)
        refine C_aload_n dX0_takeMessage_100 rfl ?_
        refine C_get dX0_takeMessage_101 f_X0_27 (fun h hc => ⟨_, hc.2.2.1 _ he, rfl⟩) ?_
        refine C_aload_n dX0_takeMessage_104 rfl ?_
        refine C_get (v := vi (σ.2.1 e 11)) dX0_takeMessage_105 f_X0_55 (fun h hc => ⟨_, hc.2.2.1 _ he, congrArg (fun z => some (vi z)) (show ((cadd σ (e + 12) f).2.1 e 11) = (σ.2.1 e 11) by simp [cI, upI, cadd, cput, cemp])⟩) ?_
        have g_105 := hw.2.2.1 e 11
        refine D_callV (As := [vi _]) (d' := 0) (row_add hw3 (kE14 he) (by omega)) dX0_takeMessage_108 v_X0_86 (fun h hc => ⟨_, (hc.1 _ (kE14 he)).1⟩) rfl (Nat.le_of_ble_eq_true rfl) (by omega) (Nat.le_of_ble_eq_true rfl) ?_
        simp only [Option.toList, List.nil_append, List.cons_append]
        have hw4 : wf (cadd (cadd σ (e + 12) f) (e + 14) (σ.2.1 e 11)) := wf_add hw3 (by omega)
        refine C_aload_n dX0_takeMessage_111 rfl ?_
        refine C_get dX0_takeMessage_112 f_X0_30 (fun h hc => ⟨_, hc.2.2.1 _ he, rfl⟩) ?_
        refine C_iload_n dX0_takeMessage_115 rfl ?_
        refine D_callV (As := [vi _]) (d' := 0) (row_add hw4 (kE16 he) (by omega)) dX0_takeMessage_116 v_X0_86 (fun h hc => ⟨_, (hc.1 _ (kE16 he)).1⟩) rfl (Nat.le_of_ble_eq_true rfl) (by omega) (Nat.le_of_ble_eq_true rfl) ?_
        simp only [Option.toList, List.nil_append, List.cons_append]
        have hw5 : wf (cadd (cadd (cadd σ (e + 12) f) (e + 14) (σ.2.1 e 11)) (e + 16) g) := wf_add hw4 (by omega)
        refine C_aload_n dX0_takeMessage_119 rfl ?_
        refine C_get dX0_takeMessage_120 f_X0_33 (fun h hc => ⟨_, hc.2.2.1 _ he, rfl⟩) ?_
        refine C_iconst dX0_takeMessage_123 ?_
        refine D_callV (As := [vi _]) (d' := 0) (row_add hw5 (kE18 he) (by omega)) dX0_takeMessage_124 v_X0_86 (fun h hc => ⟨_, (hc.1 _ (kE18 he)).1⟩) rfl (Nat.le_of_ble_eq_true rfl) (by omega) (Nat.le_of_ble_eq_true rfl) ?_
        simp only [Option.toList, List.nil_append, List.cons_append]
        have hw6 : wf (cadd (cadd (cadd (cadd σ (e + 12) f) (e + 14) (σ.2.1 e 11)) (e + 16) g) (e + 18) 0) := wf_add hw5 (by omega)
        refine C_aload_n dX0_takeMessage_127 rfl ?_
        refine C_get dX0_takeMessage_128 f_X0_36 (fun h hc => ⟨_, hc.2.2.1 _ he, rfl⟩) ?_
        refine C_iconst dX0_takeMessage_131 ?_
        refine D_callV (As := [vi _]) (d' := 0) (row_add hw6 (kE20 he) (by omega)) dX0_takeMessage_132 v_X0_86 (fun h hc => ⟨_, (hc.1 _ (kE20 he)).1⟩) rfl (Nat.le_of_ble_eq_true rfl) (by omega) (Nat.le_of_ble_eq_true rfl) ?_
        simp only [Option.toList, List.nil_append, List.cons_append]
        have hw7 : wf (cadd (cadd (cadd (cadd (cadd σ (e + 12) f) (e + 14) (σ.2.1 e 11)) (e + 16) g) (e + 18) 0) (e + 20) (-1)) := wf_add hw6 (by omega)
        refine C_aload_n dX0_takeMessage_135 rfl ?_
        refine C_dup dX0_takeMessage_136 rfl ?_
        refine C_get (v := vi (σ.2.1 e 11)) dX0_takeMessage_137 f_X0_55 (fun h hc => ⟨_, hc.2.2.1 _ he, congrArg (fun z => some (vi z)) (show ((cadd (cadd (cadd (cadd (cadd σ (e + 12) f) (e + 14) (σ.2.1 e 11)) (e + 16) g) (e + 18) 0) (e + 20) (-1)).2.1 e 11) = (σ.2.1 e 11) by simp [cI, upI, cadd, cput, cemp])⟩) ?_
        have g_137 := hw.2.2.1 e 11
        refine C_iconst dX0_takeMessage_140 ?_
        refine C_iadd dX0_takeMessage_141 ?_
        refine C_put (σ' := (cI (cadd (cadd (cadd (cadd (cadd σ (e + 12) f) (e + 14) (σ.2.1 e 11)) (e + 16) g) (e + 18) 0) (e + 20) (-1)) e 11 ((σ.2.1 e 11) + 1))) dX0_takeMessage_142 f_X0_55 jfit_i (ownE he) (fun h hc => hc.putE11 he) ?_
        have hw8 : wf (cI (cadd (cadd (cadd (cadd (cadd σ (e + 12) f) (e + 14) (σ.2.1 e 11)) (e + 16) g) (e + 18) 0) (e + 20) (-1)) e 11 ((σ.2.1 e 11) + 1)) := wf_I hw7 (by omega)
        refine C_iconst dX0_takeMessage_145 ?_
        refine C_zret dX0_takeMessage_146 rfl (by first | exact Or.inl rfl | exact Or.inr rfl | exact bz_01 _) ?_
        unfold det; rw [c_takeMessageL, if_pos (by omega), if_pos (by omega)]; exact ⟨rfl, rfl⟩
      · refine C_iconst dX0_takeMessage_90 ?_
        refine C_zret dX0_takeMessage_91 rfl (by first | exact Or.inl rfl | exact Or.inr rfl | exact bz_01 _) ?_
        unfold det; rw [c_takeMessageL, if_pos (by omega), if_neg (by omega)]; exact ⟨rfl, rfl⟩
    · refine C_aload_n dX0_takeMessage_41 rfl ?_
      refine C_get dX0_takeMessage_42 f_X0_12 (fun h hc => ⟨_, hc.2.2.1 _ he, rfl⟩) ?_
      refine C_aload_n dX0_takeMessage_45 rfl ?_
      refine C_get dX0_takeMessage_46 f_X0_55 (fun h hc => ⟨_, hc.2.2.1 _ he, rfl⟩) ?_
      have g_46 := hw.2.2.1 e 11
      refine D_callV (As := [vi _]) (d' := 1) (t_tagOf hw (Nat.le_refl _) (kE1 he) (by omega)) dX0_takeMessage_49 v_X0_65 (fun h hc => ⟨_, hc.2.1 _ (kE1 he)⟩) rfl (Nat.le_of_ble_eq_true rfl) (by omega) (Nat.le_of_ble_eq_true rfl) ?_
      simp only [Option.toList, List.nil_append, List.cons_append]
      have r_49 := tagOf2 hw (kE1 he) (σ.2.1 e 11)
      refine D_callSN (As := [vi _]) (d' := 0) (t_isEnvelopeTag hw (Nat.le_refl _) (by omega)) dX0_takeMessage_52 s_X0_89 rfl (Nat.le_of_ble_eq_true rfl) (by omega) (Nat.le_of_ble_eq_true rfl) ?_
      simp only [Option.toList, List.nil_append, List.cons_append]
      refine C_if_neZ (tgt := 74) dX0_takeMessage_55 (by decide) (fun c_55 => ?_) (fun c_55 => ?_)
      · refine C_aload_n dX0_takeMessage_74 rfl ?_
        refine C_get dX0_takeMessage_75 f_X0_12 (fun h hc => ⟨_, hc.2.2.1 _ he, rfl⟩) ?_
        refine C_aload_n dX0_takeMessage_78 rfl ?_
        refine C_get dX0_takeMessage_79 f_X0_55 (fun h hc => ⟨_, hc.2.2.1 _ he, rfl⟩) ?_
        have g_79 := hw.2.2.1 e 11
        refine D_callV (As := [vi _]) (d' := 1) (t_tagOf hw (Nat.le_refl _) (kE1 he) (by omega)) dX0_takeMessage_82 v_X0_65 (fun h hc => ⟨_, hc.2.1 _ (kE1 he)⟩) rfl (Nat.le_of_ble_eq_true rfl) (by omega) (Nat.le_of_ble_eq_true rfl) ?_
        simp only [Option.toList, List.nil_append, List.cons_append]
        have r_82 := tagOf2 hw (kE1 he) (σ.2.1 e 11)
        refine C_ldc (5590612) dX0_takeMessage_85 k_X0_92 ?_
        refine C_icmp_eq (tgt := 92) dX0_takeMessage_87 (by decide) (by omega) (by omega) (fun c_87 => ?_) (fun c_87 => ?_)
        · refine C_aload_n dX0_takeMessage_92 rfl ?_
          refine C_get dX0_takeMessage_93 f_X0_23 (fun h hc => ⟨_, hc.2.2.1 _ he, rfl⟩) ?_
          refine C_iload_n dX0_takeMessage_96 rfl ?_
          refine D_callV (As := [vi _]) (d' := 0) (row_add hw (kE12 he) (by omega)) dX0_takeMessage_97 v_X0_86 (fun h hc => ⟨_, (hc.1 _ (kE12 he)).1⟩) rfl (Nat.le_of_ble_eq_true rfl) (by omega) (Nat.le_of_ble_eq_true rfl) ?_
          simp only [Option.toList, List.nil_append, List.cons_append]
          have hw11 : wf (cadd σ (e + 12) f) := wf_add hw (by omega)
          refine C_aload_n dX0_takeMessage_100 rfl ?_
          refine C_get dX0_takeMessage_101 f_X0_27 (fun h hc => ⟨_, hc.2.2.1 _ he, rfl⟩) ?_
          refine C_aload_n dX0_takeMessage_104 rfl ?_
          refine C_get (v := vi (σ.2.1 e 11)) dX0_takeMessage_105 f_X0_55 (fun h hc => ⟨_, hc.2.2.1 _ he, congrArg (fun z => some (vi z)) (show ((cadd σ (e + 12) f).2.1 e 11) = (σ.2.1 e 11) by simp [cI, upI, cadd, cput, cemp])⟩) ?_
          have g_105 := hw.2.2.1 e 11
          refine D_callV (As := [vi _]) (d' := 0) (row_add hw11 (kE14 he) (by omega)) dX0_takeMessage_108 v_X0_86 (fun h hc => ⟨_, (hc.1 _ (kE14 he)).1⟩) rfl (Nat.le_of_ble_eq_true rfl) (by omega) (Nat.le_of_ble_eq_true rfl) ?_
          simp only [Option.toList, List.nil_append, List.cons_append]
          have hw12 : wf (cadd (cadd σ (e + 12) f) (e + 14) (σ.2.1 e 11)) := wf_add hw11 (by omega)
          refine C_aload_n dX0_takeMessage_111 rfl ?_
          refine C_get dX0_takeMessage_112 f_X0_30 (fun h hc => ⟨_, hc.2.2.1 _ he, rfl⟩) ?_
          refine C_iload_n dX0_takeMessage_115 rfl ?_
          refine D_callV (As := [vi _]) (d' := 0) (row_add hw12 (kE16 he) (by omega)) dX0_takeMessage_116 v_X0_86 (fun h hc => ⟨_, (hc.1 _ (kE16 he)).1⟩) rfl (Nat.le_of_ble_eq_true rfl) (by omega) (Nat.le_of_ble_eq_true rfl) ?_
          simp only [Option.toList, List.nil_append, List.cons_append]
          have hw13 : wf (cadd (cadd (cadd σ (e + 12) f) (e + 14) (σ.2.1 e 11)) (e + 16) g) := wf_add hw12 (by omega)
          refine C_aload_n dX0_takeMessage_119 rfl ?_
          refine C_get dX0_takeMessage_120 f_X0_33 (fun h hc => ⟨_, hc.2.2.1 _ he, rfl⟩) ?_
          refine C_iconst dX0_takeMessage_123 ?_
          refine D_callV (As := [vi _]) (d' := 0) (row_add hw13 (kE18 he) (by omega)) dX0_takeMessage_124 v_X0_86 (fun h hc => ⟨_, (hc.1 _ (kE18 he)).1⟩) rfl (Nat.le_of_ble_eq_true rfl) (by omega) (Nat.le_of_ble_eq_true rfl) ?_
          simp only [Option.toList, List.nil_append, List.cons_append]
          have hw14 : wf (cadd (cadd (cadd (cadd σ (e + 12) f) (e + 14) (σ.2.1 e 11)) (e + 16) g) (e + 18) 0) := wf_add hw13 (by omega)
          refine C_aload_n dX0_takeMessage_127 rfl ?_
          refine C_get dX0_takeMessage_128 f_X0_36 (fun h hc => ⟨_, hc.2.2.1 _ he, rfl⟩) ?_
          refine C_iconst dX0_takeMessage_131 ?_
          refine D_callV (As := [vi _]) (d' := 0) (row_add hw14 (kE20 he) (by omega)) dX0_takeMessage_132 v_X0_86 (fun h hc => ⟨_, (hc.1 _ (kE20 he)).1⟩) rfl (Nat.le_of_ble_eq_true rfl) (by omega) (Nat.le_of_ble_eq_true rfl) ?_
          simp only [Option.toList, List.nil_append, List.cons_append]
          have hw15 : wf (cadd (cadd (cadd (cadd (cadd σ (e + 12) f) (e + 14) (σ.2.1 e 11)) (e + 16) g) (e + 18) 0) (e + 20) (-1)) := wf_add hw14 (by omega)
          refine C_aload_n dX0_takeMessage_135 rfl ?_
          refine C_dup dX0_takeMessage_136 rfl ?_
          refine C_get (v := vi (σ.2.1 e 11)) dX0_takeMessage_137 f_X0_55 (fun h hc => ⟨_, hc.2.2.1 _ he, congrArg (fun z => some (vi z)) (show ((cadd (cadd (cadd (cadd (cadd σ (e + 12) f) (e + 14) (σ.2.1 e 11)) (e + 16) g) (e + 18) 0) (e + 20) (-1)).2.1 e 11) = (σ.2.1 e 11) by simp [cI, upI, cadd, cput, cemp])⟩) ?_
          have g_137 := hw.2.2.1 e 11
          refine C_iconst dX0_takeMessage_140 ?_
          refine C_iadd dX0_takeMessage_141 ?_
          refine C_put (σ' := (cI (cadd (cadd (cadd (cadd (cadd σ (e + 12) f) (e + 14) (σ.2.1 e 11)) (e + 16) g) (e + 18) 0) (e + 20) (-1)) e 11 ((σ.2.1 e 11) + 1))) dX0_takeMessage_142 f_X0_55 jfit_i (ownE he) (fun h hc => hc.putE11 he) ?_
          have hw16 : wf (cI (cadd (cadd (cadd (cadd (cadd σ (e + 12) f) (e + 14) (σ.2.1 e 11)) (e + 16) g) (e + 18) 0) (e + 20) (-1)) e 11 ((σ.2.1 e 11) + 1)) := wf_I hw15 (by omega)
          refine C_iconst dX0_takeMessage_145 ?_
          refine C_zret dX0_takeMessage_146 rfl (by first | exact Or.inl rfl | exact Or.inr rfl | exact bz_01 _) ?_
          unfold det; rw [c_takeMessageL, if_neg (by omega), if_pos c_55, if_pos (by omega)]; exact ⟨rfl, rfl⟩
        · refine C_iconst dX0_takeMessage_90 ?_
          refine C_zret dX0_takeMessage_91 rfl (by first | exact Or.inl rfl | exact Or.inr rfl | exact bz_01 _) ?_
          unfold det; rw [c_takeMessageL, if_neg (by omega), if_pos c_55, if_neg (by omega)]; exact ⟨rfl, rfl⟩
      · refine C_aload_n dX0_takeMessage_58 rfl ?_
        refine C_dup dX0_takeMessage_59 rfl ?_
        refine C_get dX0_takeMessage_60 f_X0_55 (fun h hc => ⟨_, hc.2.2.1 _ he, rfl⟩) ?_
        have g_60 := hw.2.2.1 e 11
        refine C_iconst dX0_takeMessage_63 ?_
        refine C_iadd dX0_takeMessage_64 ?_
        refine C_put (σ' := (cI σ e 11 ((σ.2.1 e 11) + 1))) dX0_takeMessage_65 f_X0_55 jfit_i (ownE he) (fun h hc => hc.putE11 he) ?_
        have hw17 : wf (cI σ e 11 ((σ.2.1 e 11) + 1)) := wf_I hw (by omega)
        refine C_iinc dX0_takeMessage_68 rfl (by decide) rfl ?_
        simp only [List.set_cons_zero, List.set_cons_succ]
        refine C_goto (tgt := 35) dX0_takeMessage_71 (by decide) ?_
        rw [c_takeMessageL, if_neg (by omega), if_neg (by rw [c_55]; decide)]
        refine CJ.mono (ls' := [some (.ref e), some (vi g), some (vi f), some (vi (k + 1))]) (lsub_ok (by repeat (first | exact trivial | refine ⟨rfl, ?_⟩))) (fun _ _ q => q) ?_
        exact ih hw17 (by omega) (by omega) (by first | omega | (simp [cI, upI] <;> omega)) (by omega)
theorem t_takeMessage {l : Launch} {G : jG} {d : Nat} {σ : cS} {e : Nat} {g : Int} (hw : wf σ) (hd : 2 ≤ d) (he : kd e = 0) (hg : -3000 ≤ g ∧ g < 100000000) : CJ jCls jown l G (Yx mX0_takeMessage) d 0 0 0 [some (.ref e), some (vi g), none, none] [] σ (det (some (vi (bz (c_takeMessage σ e g).1))) (c_takeMessage σ e g).2) := by
  refine C_aload_n dX0_takeMessage_0 rfl ?_
  refine C_get dX0_takeMessage_1 f_X0_12 (fun h hc => ⟨_, hc.2.2.1 _ he, rfl⟩) ?_
  refine C_aload_n dX0_takeMessage_4 rfl ?_
  refine C_get dX0_takeMessage_5 f_X0_55 (fun h hc => ⟨_, hc.2.2.1 _ he, rfl⟩) ?_
  have g_5 := hw.2.2.1 e 11
  refine D_callV (As := [vi _]) (d' := 1) (t_tagOf hw (Nat.le_refl _) (kE1 he) (by omega)) dX0_takeMessage_8 v_X0_65 (fun h hc => ⟨_, hc.2.1 _ (kE1 he)⟩) rfl (Nat.le_of_ble_eq_true rfl) (by omega) (Nat.le_of_ble_eq_true rfl) ?_
  simp only [Option.toList, List.nil_append, List.cons_append]
  have r_8 := tagOf2 hw (kE1 he) (σ.2.1 e 11)
  refine C_ldc (5590600) dX0_takeMessage_11 k_X0_84 ?_
  refine C_icmp_eq (tgt := 18) dX0_takeMessage_13 (by decide) (by omega) (by omega) (fun c_13 => ?_) (fun c_13 => ?_)
  · refine C_aload_n dX0_takeMessage_18 rfl ?_
    refine C_get dX0_takeMessage_19 f_X0_55 (fun h hc => ⟨_, hc.2.2.1 _ he, rfl⟩) ?_
    have g_19 := hw.2.2.1 e 11
    refine C_istore_n dX0_takeMessage_22 (by decide) rfl ?_
    simp only [List.set_cons_zero, List.set_cons_succ, jfin0, jfin1, jfin2, jfin3]
    refine C_aload_n dX0_takeMessage_23 rfl ?_
    refine C_dup dX0_takeMessage_24 rfl ?_
    refine C_get dX0_takeMessage_25 f_X0_55 (fun h hc => ⟨_, hc.2.2.1 _ he, rfl⟩) ?_
    have g_25 := hw.2.2.1 e 11
    refine C_iconst dX0_takeMessage_28 ?_
    refine C_iadd dX0_takeMessage_29 ?_
    refine C_put (σ' := (cI σ e 11 ((σ.2.1 e 11) + 1))) dX0_takeMessage_30 f_X0_55 jfit_i (ownE he) (fun h hc => hc.putE11 he) ?_
    have hw2 : wf (cI σ e 11 ((σ.2.1 e 11) + 1)) := wf_I hw (by omega)
    refine C_iconst dX0_takeMessage_33 ?_
    refine C_istore_n dX0_takeMessage_34 (by decide) rfl ?_
    simp only [List.set_cons_zero, List.set_cons_succ, jfin0, jfin1, jfin2, jfin3]
    rw [c_takeMessage, if_pos (by omega)]
    refine CJ.mono (ls' := [some (.ref e), some (vi g), some (vi (σ.2.1 e 11)), some (vi 0)]) (lsub_ok (by repeat (first | exact trivial | refine ⟨rfl, ?_⟩))) (fun _ _ q => q) ?_
    exact t_takeMessageL hw2 hd he hg (41) (by omega) (by omega) (by first | omega | (simp [cI, upI] <;> omega)) (by omega)
  · refine C_iconst dX0_takeMessage_16 ?_
    refine C_zret dX0_takeMessage_17 rfl (by first | exact Or.inl rfl | exact Or.inr rfl | exact bz_01 _) ?_
    unfold det; rw [c_takeMessage, if_neg (by omega)]; exact ⟨rfl, rfl⟩
theorem w_takeMessageL {σ : cS} {e : Nat} {g : Int} {f k : Int} (hw : wf σ) (he : kd e = 0) (hg : -3000 ≤ g ∧ g < 100000000) (fu : Nat) (hf : -3000 ≤ f ∧ f < 100000000) (hk : 0 ≤ k ∧ k ≤ 40) (hpl : σ.2.1 e 11 ≤ 2001 + k) : wf (c_takeMessageL e g fu f k σ).2 := by
  induction fu generalizing σ f k with
  | zero => exact hw
  | succ fu ih =>
    unfold c_takeMessageL
    split
    · split
      · have g_79 := hw.2.2.1 e 11
        have r_82 := tagOf2 hw (kE1 he) (σ.2.1 e 11)
        have hw3 : wf (cadd σ (e + 12) f) := wf_add hw (by omega)
        have g_105 := hw.2.2.1 e 11
        have hw4 : wf (cadd (cadd σ (e + 12) f) (e + 14) (σ.2.1 e 11)) := wf_add hw3 (by omega)
        have hw5 : wf (cadd (cadd (cadd σ (e + 12) f) (e + 14) (σ.2.1 e 11)) (e + 16) g) := wf_add hw4 (by omega)
        have hw6 : wf (cadd (cadd (cadd (cadd σ (e + 12) f) (e + 14) (σ.2.1 e 11)) (e + 16) g) (e + 18) 0) := wf_add hw5 (by omega)
        have hw7 : wf (cadd (cadd (cadd (cadd (cadd σ (e + 12) f) (e + 14) (σ.2.1 e 11)) (e + 16) g) (e + 18) 0) (e + 20) (-1)) := wf_add hw6 (by omega)
        have g_137 := hw.2.2.1 e 11
        have hw8 : wf (cI (cadd (cadd (cadd (cadd (cadd σ (e + 12) f) (e + 14) (σ.2.1 e 11)) (e + 16) g) (e + 18) 0) (e + 20) (-1)) e 11 ((σ.2.1 e 11) + 1)) := wf_I hw7 (by omega)
        exact hw8
      · have g_79 := hw.2.2.1 e 11
        have r_82 := tagOf2 hw (kE1 he) (σ.2.1 e 11)
        exact hw
    · split
      · split
        · have g_46 := hw.2.2.1 e 11
          have r_49 := tagOf2 hw (kE1 he) (σ.2.1 e 11)
          have g_79 := hw.2.2.1 e 11
          have r_82 := tagOf2 hw (kE1 he) (σ.2.1 e 11)
          have hw11 : wf (cadd σ (e + 12) f) := wf_add hw (by omega)
          have g_105 := hw.2.2.1 e 11
          have hw12 : wf (cadd (cadd σ (e + 12) f) (e + 14) (σ.2.1 e 11)) := wf_add hw11 (by omega)
          have hw13 : wf (cadd (cadd (cadd σ (e + 12) f) (e + 14) (σ.2.1 e 11)) (e + 16) g) := wf_add hw12 (by omega)
          have hw14 : wf (cadd (cadd (cadd (cadd σ (e + 12) f) (e + 14) (σ.2.1 e 11)) (e + 16) g) (e + 18) 0) := wf_add hw13 (by omega)
          have hw15 : wf (cadd (cadd (cadd (cadd (cadd σ (e + 12) f) (e + 14) (σ.2.1 e 11)) (e + 16) g) (e + 18) 0) (e + 20) (-1)) := wf_add hw14 (by omega)
          have g_137 := hw.2.2.1 e 11
          have hw16 : wf (cI (cadd (cadd (cadd (cadd (cadd σ (e + 12) f) (e + 14) (σ.2.1 e 11)) (e + 16) g) (e + 18) 0) (e + 20) (-1)) e 11 ((σ.2.1 e 11) + 1)) := wf_I hw15 (by omega)
          exact hw16
        · have g_46 := hw.2.2.1 e 11
          have r_49 := tagOf2 hw (kE1 he) (σ.2.1 e 11)
          have g_79 := hw.2.2.1 e 11
          have r_82 := tagOf2 hw (kE1 he) (σ.2.1 e 11)
          exact hw
      · have g_46 := hw.2.2.1 e 11
        have r_49 := tagOf2 hw (kE1 he) (σ.2.1 e 11)
        have g_60 := hw.2.2.1 e 11
        have hw17 : wf (cI σ e 11 ((σ.2.1 e 11) + 1)) := wf_I hw (by omega)
        exact ih hw17 (by omega) (by omega) (by first | omega | (simp [cI, upI] <;> omega))
theorem w_takeMessage {σ : cS} {e : Nat} {g : Int} (hw : wf σ) (he : kd e = 0) (hg : -3000 ≤ g ∧ g < 100000000) : wf (c_takeMessage σ e g).2 := by
  unfold c_takeMessage
  split
  · have g_5 := hw.2.2.1 e 11
    have r_8 := tagOf2 hw (kE1 he) (σ.2.1 e 11)
    have g_19 := hw.2.2.1 e 11
    have g_25 := hw.2.2.1 e 11
    have hw2 : wf (cI σ e 11 ((σ.2.1 e 11) + 1)) := wf_I hw (by omega)
    exact w_takeMessageL hw2 he hg (41) (by omega) (by omega) (by first | omega | (simp [cI, upI] <;> omega))
  · have g_5 := hw.2.2.1 e 11
    have r_8 := tagOf2 hw (kE1 he) (σ.2.1 e 11)
    exact hw
def c_takeGroupL (e : Nat) : Nat → Int → Int → Int → cS → Bool × cS
  | 0, _, _, _, σ => (false, σ)
  | fu + 1, f, b, k, σ => (if 19 ≤ k then (if (c_tagOf σ (e + 1) (σ.2.1 e 11)) = 5590597 then (if (σ.1 (e + 12)).length = b then (false, σ) else (true, (cI (cadd (cadd (cadd (cadd σ (e + 22) f) (e + 24) (σ.2.1 e 11)) (e + 26) (((cadd (cadd σ (e + 22) f) (e + 24) (σ.2.1 e 11)).1 (e + 12)).length - b)) (e + 28) 0) e 11 ((σ.2.1 e 11) + 1)))) else (false, σ)) else (if (c_tagOf σ (e + 1) (σ.2.1 e 11)) = 5590600 then (if (c_takeMessage σ e ((σ.1 (e + 22)).length)).1 = true then (c_takeGroupL e fu f b (k + 1) (c_takeMessage σ e ((σ.1 (e + 22)).length)).2) else (false, (c_takeMessage σ e ((σ.1 (e + 22)).length)).2)) else (if (c_tagOf σ (e + 1) (σ.2.1 e 11)) = 5590597 then (if (σ.1 (e + 12)).length = b then (false, σ) else (true, (cI (cadd (cadd (cadd (cadd σ (e + 22) f) (e + 24) (σ.2.1 e 11)) (e + 26) (((cadd (cadd σ (e + 22) f) (e + 24) (σ.2.1 e 11)).1 (e + 12)).length - b)) (e + 28) 0) e 11 ((σ.2.1 e 11) + 1)))) else (false, σ))))
def c_takeGroup (σ : cS) (e : Nat) : Bool × cS := (if (c_tagOf σ (e + 1) (σ.2.1 e 11)) = 5590599 then (c_takeGroupL e (20) (σ.2.1 e 11) ((σ.1 (e + 12)).length) 0 (cI σ e 11 ((σ.2.1 e 11) + 1))) else (false, σ))
theorem t_takeGroupL {l : Launch} {G : jG} {d : Nat} {σ : cS} {e : Nat} {f b k : Int} (hw : wf σ) (hd : 3 ≤ d) (he : kd e = 0) (fu : Nat) (hf : -3000 ≤ f ∧ f < 100000000) (hb : 0 ≤ b ∧ b ≤ 2000) (hk : 0 ≤ k ∧ k ≤ 19) (hm : 19 - k < (fu : Int)) : CJ jCls jown l G (Yx mX0_takeGroup) d 0 0 43 [some (.ref e), some (vi f), some (vi b), some (vi k)] [] σ (det (some (vi (bz (c_takeGroupL e fu f b k σ).1))) (c_takeGroupL e fu f b k σ).2) := by
  induction fu generalizing σ f b k with
  | zero => exact absurd hm (by omega)
  | succ fu ih =>
    refine C_iload_n dX0_takeGroup_43 rfl ?_
    refine C_bipush dX0_takeGroup_44 (by decide) ?_
    refine C_icmp_ge (tgt := 87) dX0_takeGroup_46 (by decide) (by omega) (by omega) (fun c_46 => ?_) (fun c_46 => ?_)
    · refine C_aload_n dX0_takeGroup_87 rfl ?_
      refine C_get dX0_takeGroup_88 f_X0_12 (fun h hc => ⟨_, hc.2.2.1 _ he, rfl⟩) ?_
      refine C_aload_n dX0_takeGroup_91 rfl ?_
      refine C_get dX0_takeGroup_92 f_X0_55 (fun h hc => ⟨_, hc.2.2.1 _ he, rfl⟩) ?_
      have g_92 := hw.2.2.1 e 11
      refine D_callV (As := [vi _]) (d' := 1) (t_tagOf hw (Nat.le_refl _) (kE1 he) (by omega)) dX0_takeGroup_95 v_X0_65 (fun h hc => ⟨_, hc.2.1 _ (kE1 he)⟩) rfl (Nat.le_of_ble_eq_true rfl) (by omega) (Nat.le_of_ble_eq_true rfl) ?_
      simp only [Option.toList, List.nil_append, List.cons_append]
      have r_95 := tagOf2 hw (kE1 he) (σ.2.1 e 11)
      refine C_ldc (5590597) dX0_takeGroup_98 k_X0_85 ?_
      refine C_icmp_ne (tgt := 114) dX0_takeGroup_100 (by decide) (by omega) (by omega) (fun c_100 => ?_) (fun c_100 => ?_)
      · refine C_iconst dX0_takeGroup_114 ?_
        refine C_zret dX0_takeGroup_115 rfl (by first | exact Or.inl rfl | exact Or.inr rfl | exact bz_01 _) ?_
        unfold det; rw [c_takeGroupL, if_pos (by omega), if_neg (by omega)]; exact ⟨rfl, rfl⟩
      · refine C_aload_n dX0_takeGroup_103 rfl ?_
        refine C_get dX0_takeGroup_104 f_X0_23 (fun h hc => ⟨_, hc.2.2.1 _ he, rfl⟩) ?_
        refine D_callV (As := []) (d' := 0) (row_size hw (kE12 he)) dX0_takeGroup_107 v_X0_80 (fun h hc => ⟨_, (hc.1 _ (kE12 he)).1⟩) rfl (Nat.le_of_ble_eq_true rfl) (by omega) (Nat.le_of_ble_eq_true rfl) ?_
        simp only [Option.toList, List.nil_append, List.cons_append]
        have r_107 := hw.len (kE12 he)
        refine C_iload_n dX0_takeGroup_110 rfl ?_
        refine C_icmp_ne (tgt := 116) dX0_takeGroup_111 (by decide) (by omega) (by omega) (fun c_111 => ?_) (fun c_111 => ?_)
        · refine C_aload_n dX0_takeGroup_116 rfl ?_
          refine C_get dX0_takeGroup_117 f_X0_39 (fun h hc => ⟨_, hc.2.2.1 _ he, rfl⟩) ?_
          refine C_iload_n dX0_takeGroup_120 rfl ?_
          refine D_callV (As := [vi _]) (d' := 0) (row_add hw (kE22 he) (by omega)) dX0_takeGroup_121 v_X0_86 (fun h hc => ⟨_, (hc.1 _ (kE22 he)).1⟩) rfl (Nat.le_of_ble_eq_true rfl) (by omega) (Nat.le_of_ble_eq_true rfl) ?_
          simp only [Option.toList, List.nil_append, List.cons_append]
          have hw4 : wf (cadd σ (e + 22) f) := wf_add hw (by omega)
          refine C_aload_n dX0_takeGroup_124 rfl ?_
          refine C_get dX0_takeGroup_125 f_X0_42 (fun h hc => ⟨_, hc.2.2.1 _ he, rfl⟩) ?_
          refine C_aload_n dX0_takeGroup_128 rfl ?_
          refine C_get (v := vi (σ.2.1 e 11)) dX0_takeGroup_129 f_X0_55 (fun h hc => ⟨_, hc.2.2.1 _ he, congrArg (fun z => some (vi z)) (show ((cadd σ (e + 22) f).2.1 e 11) = (σ.2.1 e 11) by simp [cI, upI, cadd, cput, cemp])⟩) ?_
          have g_129 := hw.2.2.1 e 11
          refine D_callV (As := [vi _]) (d' := 0) (row_add hw4 (kE24 he) (by omega)) dX0_takeGroup_132 v_X0_86 (fun h hc => ⟨_, (hc.1 _ (kE24 he)).1⟩) rfl (Nat.le_of_ble_eq_true rfl) (by omega) (Nat.le_of_ble_eq_true rfl) ?_
          simp only [Option.toList, List.nil_append, List.cons_append]
          have hw5 : wf (cadd (cadd σ (e + 22) f) (e + 24) (σ.2.1 e 11)) := wf_add hw4 (by omega)
          refine C_aload_n dX0_takeGroup_135 rfl ?_
          refine C_get dX0_takeGroup_136 f_X0_45 (fun h hc => ⟨_, hc.2.2.1 _ he, rfl⟩) ?_
          refine C_aload_n dX0_takeGroup_139 rfl ?_
          refine C_get dX0_takeGroup_140 f_X0_23 (fun h hc => ⟨_, hc.2.2.1 _ he, rfl⟩) ?_
          refine D_callV (As := []) (d' := 0) (row_size hw5 (kE12 he)) dX0_takeGroup_143 v_X0_80 (fun h hc => ⟨_, (hc.1 _ (kE12 he)).1⟩) rfl (Nat.le_of_ble_eq_true rfl) (by omega) (Nat.le_of_ble_eq_true rfl) ?_
          simp only [Option.toList, List.nil_append, List.cons_append]
          have r_143 := hw5.len (kE12 he)
          refine C_iload_n dX0_takeGroup_146 rfl ?_
          refine C_isub dX0_takeGroup_147 ?_
          refine D_callV (As := [vi _]) (d' := 0) (row_add hw5 (kE26 he) (by omega)) dX0_takeGroup_148 v_X0_86 (fun h hc => ⟨_, (hc.1 _ (kE26 he)).1⟩) rfl (Nat.le_of_ble_eq_true rfl) (by omega) (Nat.le_of_ble_eq_true rfl) ?_
          simp only [Option.toList, List.nil_append, List.cons_append]
          have hw6 : wf (cadd (cadd (cadd σ (e + 22) f) (e + 24) (σ.2.1 e 11)) (e + 26) (((cadd (cadd σ (e + 22) f) (e + 24) (σ.2.1 e 11)).1 (e + 12)).length - b)) := wf_add hw5 (by omega)
          refine C_aload_n dX0_takeGroup_151 rfl ?_
          refine C_get dX0_takeGroup_152 f_X0_48 (fun h hc => ⟨_, hc.2.2.1 _ he, rfl⟩) ?_
          refine C_iconst dX0_takeGroup_155 ?_
          refine D_callV (As := [vi _]) (d' := 0) (row_add hw6 (kE28 he) (by omega)) dX0_takeGroup_156 v_X0_86 (fun h hc => ⟨_, (hc.1 _ (kE28 he)).1⟩) rfl (Nat.le_of_ble_eq_true rfl) (by omega) (Nat.le_of_ble_eq_true rfl) ?_
          simp only [Option.toList, List.nil_append, List.cons_append]
          have hw7 : wf (cadd (cadd (cadd (cadd σ (e + 22) f) (e + 24) (σ.2.1 e 11)) (e + 26) (((cadd (cadd σ (e + 22) f) (e + 24) (σ.2.1 e 11)).1 (e + 12)).length - b)) (e + 28) 0) := wf_add hw6 (by omega)
          refine C_aload_n dX0_takeGroup_159 rfl ?_
          refine C_dup dX0_takeGroup_160 rfl ?_
          refine C_get (v := vi (σ.2.1 e 11)) dX0_takeGroup_161 f_X0_55 (fun h hc => ⟨_, hc.2.2.1 _ he, congrArg (fun z => some (vi z)) (show ((cadd (cadd (cadd (cadd σ (e + 22) f) (e + 24) (σ.2.1 e 11)) (e + 26) (((cadd (cadd σ (e + 22) f) (e + 24) (σ.2.1 e 11)).1 (e + 12)).length - b)) (e + 28) 0).2.1 e 11) = (σ.2.1 e 11) by simp [cI, upI, cadd, cput, cemp])⟩) ?_
          have g_161 := hw.2.2.1 e 11
          refine C_iconst dX0_takeGroup_164 ?_
          refine C_iadd dX0_takeGroup_165 ?_
          refine C_put (σ' := (cI (cadd (cadd (cadd (cadd σ (e + 22) f) (e + 24) (σ.2.1 e 11)) (e + 26) (((cadd (cadd σ (e + 22) f) (e + 24) (σ.2.1 e 11)).1 (e + 12)).length - b)) (e + 28) 0) e 11 ((σ.2.1 e 11) + 1))) dX0_takeGroup_166 f_X0_55 jfit_i (ownE he) (fun h hc => hc.putE11 he) ?_
          have hw8 : wf (cI (cadd (cadd (cadd (cadd σ (e + 22) f) (e + 24) (σ.2.1 e 11)) (e + 26) (((cadd (cadd σ (e + 22) f) (e + 24) (σ.2.1 e 11)).1 (e + 12)).length - b)) (e + 28) 0) e 11 ((σ.2.1 e 11) + 1)) := wf_I hw7 (by omega)
          refine C_iconst dX0_takeGroup_169 ?_
          refine C_zret dX0_takeGroup_170 rfl (by first | exact Or.inl rfl | exact Or.inr rfl | exact bz_01 _) ?_
          unfold det; rw [c_takeGroupL, if_pos (by omega), if_pos (by omega), if_neg (by omega)]; exact ⟨rfl, rfl⟩
        · refine C_iconst dX0_takeGroup_114 ?_
          refine C_zret dX0_takeGroup_115 rfl (by first | exact Or.inl rfl | exact Or.inr rfl | exact bz_01 _) ?_
          unfold det; rw [c_takeGroupL, if_pos (by omega), if_pos (by omega), if_pos (by omega)]; exact ⟨rfl, rfl⟩
    · refine C_aload_n dX0_takeGroup_49 rfl ?_
      refine C_get dX0_takeGroup_50 f_X0_12 (fun h hc => ⟨_, hc.2.2.1 _ he, rfl⟩) ?_
      refine C_aload_n dX0_takeGroup_53 rfl ?_
      refine C_get dX0_takeGroup_54 f_X0_55 (fun h hc => ⟨_, hc.2.2.1 _ he, rfl⟩) ?_
      have g_54 := hw.2.2.1 e 11
      refine D_callV (As := [vi _]) (d' := 1) (t_tagOf hw (Nat.le_refl _) (kE1 he) (by omega)) dX0_takeGroup_57 v_X0_65 (fun h hc => ⟨_, hc.2.1 _ (kE1 he)⟩) rfl (Nat.le_of_ble_eq_true rfl) (by omega) (Nat.le_of_ble_eq_true rfl) ?_
      simp only [Option.toList, List.nil_append, List.cons_append]
      have r_57 := tagOf2 hw (kE1 he) (σ.2.1 e 11)
      refine C_ldc (5590600) dX0_takeGroup_60 k_X0_84 ?_
      refine C_icmp_ne (tgt := 87) dX0_takeGroup_62 (by decide) (by omega) (by omega) (fun c_62 => ?_) (fun c_62 => ?_)
      · refine C_aload_n dX0_takeGroup_87 rfl ?_
        refine C_get dX0_takeGroup_88 f_X0_12 (fun h hc => ⟨_, hc.2.2.1 _ he, rfl⟩) ?_
        refine C_aload_n dX0_takeGroup_91 rfl ?_
        refine C_get dX0_takeGroup_92 f_X0_55 (fun h hc => ⟨_, hc.2.2.1 _ he, rfl⟩) ?_
        have g_92 := hw.2.2.1 e 11
        refine D_callV (As := [vi _]) (d' := 1) (t_tagOf hw (Nat.le_refl _) (kE1 he) (by omega)) dX0_takeGroup_95 v_X0_65 (fun h hc => ⟨_, hc.2.1 _ (kE1 he)⟩) rfl (Nat.le_of_ble_eq_true rfl) (by omega) (Nat.le_of_ble_eq_true rfl) ?_
        simp only [Option.toList, List.nil_append, List.cons_append]
        have r_95 := tagOf2 hw (kE1 he) (σ.2.1 e 11)
        refine C_ldc (5590597) dX0_takeGroup_98 k_X0_85 ?_
        refine C_icmp_ne (tgt := 114) dX0_takeGroup_100 (by decide) (by omega) (by omega) (fun c_100 => ?_) (fun c_100 => ?_)
        · refine C_iconst dX0_takeGroup_114 ?_
          refine C_zret dX0_takeGroup_115 rfl (by first | exact Or.inl rfl | exact Or.inr rfl | exact bz_01 _) ?_
          unfold det; rw [c_takeGroupL, if_neg (by omega), if_neg (by omega), if_neg (by omega)]; exact ⟨rfl, rfl⟩
        · refine C_aload_n dX0_takeGroup_103 rfl ?_
          refine C_get dX0_takeGroup_104 f_X0_23 (fun h hc => ⟨_, hc.2.2.1 _ he, rfl⟩) ?_
          refine D_callV (As := []) (d' := 0) (row_size hw (kE12 he)) dX0_takeGroup_107 v_X0_80 (fun h hc => ⟨_, (hc.1 _ (kE12 he)).1⟩) rfl (Nat.le_of_ble_eq_true rfl) (by omega) (Nat.le_of_ble_eq_true rfl) ?_
          simp only [Option.toList, List.nil_append, List.cons_append]
          have r_107 := hw.len (kE12 he)
          refine C_iload_n dX0_takeGroup_110 rfl ?_
          refine C_icmp_ne (tgt := 116) dX0_takeGroup_111 (by decide) (by omega) (by omega) (fun c_111 => ?_) (fun c_111 => ?_)
          · refine C_aload_n dX0_takeGroup_116 rfl ?_
            refine C_get dX0_takeGroup_117 f_X0_39 (fun h hc => ⟨_, hc.2.2.1 _ he, rfl⟩) ?_
            refine C_iload_n dX0_takeGroup_120 rfl ?_
            refine D_callV (As := [vi _]) (d' := 0) (row_add hw (kE22 he) (by omega)) dX0_takeGroup_121 v_X0_86 (fun h hc => ⟨_, (hc.1 _ (kE22 he)).1⟩) rfl (Nat.le_of_ble_eq_true rfl) (by omega) (Nat.le_of_ble_eq_true rfl) ?_
            simp only [Option.toList, List.nil_append, List.cons_append]
            have hw12 : wf (cadd σ (e + 22) f) := wf_add hw (by omega)
            refine C_aload_n dX0_takeGroup_124 rfl ?_
            refine C_get dX0_takeGroup_125 f_X0_42 (fun h hc => ⟨_, hc.2.2.1 _ he, rfl⟩) ?_
            refine C_aload_n dX0_takeGroup_128 rfl ?_
            refine C_get (v := vi (σ.2.1 e 11)) dX0_takeGroup_129 f_X0_55 (fun h hc => ⟨_, hc.2.2.1 _ he, congrArg (fun z => some (vi z)) (show ((cadd σ (e + 22) f).2.1 e 11) = (σ.2.1 e 11) by simp [cI, upI, cadd, cput, cemp])⟩) ?_
            have g_129 := hw.2.2.1 e 11
            refine D_callV (As := [vi _]) (d' := 0) (row_add hw12 (kE24 he) (by omega)) dX0_takeGroup_132 v_X0_86 (fun h hc => ⟨_, (hc.1 _ (kE24 he)).1⟩) rfl (Nat.le_of_ble_eq_true rfl) (by omega) (Nat.le_of_ble_eq_true rfl) ?_
            simp only [Option.toList, List.nil_append, List.cons_append]
            have hw13 : wf (cadd (cadd σ (e + 22) f) (e + 24) (σ.2.1 e 11)) := wf_add hw12 (by omega)
            refine C_aload_n dX0_takeGroup_135 rfl ?_
            refine C_get dX0_takeGroup_136 f_X0_45 (fun h hc => ⟨_, hc.2.2.1 _ he, rfl⟩) ?_
            refine C_aload_n dX0_takeGroup_139 rfl ?_
            refine C_get dX0_takeGroup_140 f_X0_23 (fun h hc => ⟨_, hc.2.2.1 _ he, rfl⟩) ?_
            refine D_callV (As := []) (d' := 0) (row_size hw13 (kE12 he)) dX0_takeGroup_143 v_X0_80 (fun h hc => ⟨_, (hc.1 _ (kE12 he)).1⟩) rfl (Nat.le_of_ble_eq_true rfl) (by omega) (Nat.le_of_ble_eq_true rfl) ?_
            simp only [Option.toList, List.nil_append, List.cons_append]
            have r_143 := hw13.len (kE12 he)
            refine C_iload_n dX0_takeGroup_146 rfl ?_
            refine C_isub dX0_takeGroup_147 ?_
            refine D_callV (As := [vi _]) (d' := 0) (row_add hw13 (kE26 he) (by omega)) dX0_takeGroup_148 v_X0_86 (fun h hc => ⟨_, (hc.1 _ (kE26 he)).1⟩) rfl (Nat.le_of_ble_eq_true rfl) (by omega) (Nat.le_of_ble_eq_true rfl) ?_
            simp only [Option.toList, List.nil_append, List.cons_append]
            have hw14 : wf (cadd (cadd (cadd σ (e + 22) f) (e + 24) (σ.2.1 e 11)) (e + 26) (((cadd (cadd σ (e + 22) f) (e + 24) (σ.2.1 e 11)).1 (e + 12)).length - b)) := wf_add hw13 (by omega)
            refine C_aload_n dX0_takeGroup_151 rfl ?_
            refine C_get dX0_takeGroup_152 f_X0_48 (fun h hc => ⟨_, hc.2.2.1 _ he, rfl⟩) ?_
            refine C_iconst dX0_takeGroup_155 ?_
            refine D_callV (As := [vi _]) (d' := 0) (row_add hw14 (kE28 he) (by omega)) dX0_takeGroup_156 v_X0_86 (fun h hc => ⟨_, (hc.1 _ (kE28 he)).1⟩) rfl (Nat.le_of_ble_eq_true rfl) (by omega) (Nat.le_of_ble_eq_true rfl) ?_
            simp only [Option.toList, List.nil_append, List.cons_append]
            have hw15 : wf (cadd (cadd (cadd (cadd σ (e + 22) f) (e + 24) (σ.2.1 e 11)) (e + 26) (((cadd (cadd σ (e + 22) f) (e + 24) (σ.2.1 e 11)).1 (e + 12)).length - b)) (e + 28) 0) := wf_add hw14 (by omega)
            refine C_aload_n dX0_takeGroup_159 rfl ?_
            refine C_dup dX0_takeGroup_160 rfl ?_
            refine C_get (v := vi (σ.2.1 e 11)) dX0_takeGroup_161 f_X0_55 (fun h hc => ⟨_, hc.2.2.1 _ he, congrArg (fun z => some (vi z)) (show ((cadd (cadd (cadd (cadd σ (e + 22) f) (e + 24) (σ.2.1 e 11)) (e + 26) (((cadd (cadd σ (e + 22) f) (e + 24) (σ.2.1 e 11)).1 (e + 12)).length - b)) (e + 28) 0).2.1 e 11) = (σ.2.1 e 11) by simp [cI, upI, cadd, cput, cemp])⟩) ?_
            have g_161 := hw.2.2.1 e 11
            refine C_iconst dX0_takeGroup_164 ?_
            refine C_iadd dX0_takeGroup_165 ?_
            refine C_put (σ' := (cI (cadd (cadd (cadd (cadd σ (e + 22) f) (e + 24) (σ.2.1 e 11)) (e + 26) (((cadd (cadd σ (e + 22) f) (e + 24) (σ.2.1 e 11)).1 (e + 12)).length - b)) (e + 28) 0) e 11 ((σ.2.1 e 11) + 1))) dX0_takeGroup_166 f_X0_55 jfit_i (ownE he) (fun h hc => hc.putE11 he) ?_
            have hw16 : wf (cI (cadd (cadd (cadd (cadd σ (e + 22) f) (e + 24) (σ.2.1 e 11)) (e + 26) (((cadd (cadd σ (e + 22) f) (e + 24) (σ.2.1 e 11)).1 (e + 12)).length - b)) (e + 28) 0) e 11 ((σ.2.1 e 11) + 1)) := wf_I hw15 (by omega)
            refine C_iconst dX0_takeGroup_169 ?_
            refine C_zret dX0_takeGroup_170 rfl (by first | exact Or.inl rfl | exact Or.inr rfl | exact bz_01 _) ?_
            unfold det; rw [c_takeGroupL, if_neg (by omega), if_neg (by omega), if_pos (by omega), if_neg (by omega)]; exact ⟨rfl, rfl⟩
          · refine C_iconst dX0_takeGroup_114 ?_
            refine C_zret dX0_takeGroup_115 rfl (by first | exact Or.inl rfl | exact Or.inr rfl | exact bz_01 _) ?_
            unfold det; rw [c_takeGroupL, if_neg (by omega), if_neg (by omega), if_pos (by omega), if_pos (by omega)]; exact ⟨rfl, rfl⟩
      · refine C_aload_n dX0_takeGroup_65 rfl ?_
        refine C_aload_n dX0_takeGroup_66 rfl ?_
        refine C_get dX0_takeGroup_67 f_X0_39 (fun h hc => ⟨_, hc.2.2.1 _ he, rfl⟩) ?_
        refine D_callV (As := []) (d' := 0) (row_size hw (kE22 he)) dX0_takeGroup_70 v_X0_80 (fun h hc => ⟨_, (hc.1 _ (kE22 he)).1⟩) rfl (Nat.le_of_ble_eq_true rfl) (by omega) (Nat.le_of_ble_eq_true rfl) ?_
        simp only [Option.toList, List.nil_append, List.cons_append]
        have r_70 := hw.len (kE22 he)
        refine D_callV (As := [vi _]) (d' := 2) (t_takeMessage hw (Nat.le_refl _) he (by omega)) dX0_takeGroup_73 v_X0_76 (fun h hc => ⟨_, hc.2.2.1 _ he⟩) rfl (Nat.le_of_ble_eq_true rfl) (by omega) (Nat.le_of_ble_eq_true rfl) ?_
        simp only [Option.toList, List.nil_append, List.cons_append]
        have hw17 : wf (c_takeMessage σ e ((σ.1 (e + 22)).length)).2 := w_takeMessage hw he (by omega)
        refine C_if_neZ (tgt := 81) dX0_takeGroup_76 (by decide) (fun c_76 => ?_) (fun c_76 => ?_)
        · refine C_iinc dX0_takeGroup_81 rfl (by decide) rfl ?_
          simp only [List.set_cons_zero, List.set_cons_succ]
          refine C_goto (tgt := 43) dX0_takeGroup_84 (by decide) ?_
          rw [c_takeGroupL, if_neg (by omega), if_pos (by omega), if_pos c_76]
          refine CJ.mono (ls' := [some (.ref e), some (vi f), some (vi b), some (vi (k + 1))]) (lsub_ok (by repeat (first | exact trivial | refine ⟨rfl, ?_⟩))) (fun _ _ q => q) ?_
          exact ih hw17 (by omega) (by omega) (by omega) (by omega)
        · refine C_iconst dX0_takeGroup_79 ?_
          refine C_zret dX0_takeGroup_80 rfl (by first | exact Or.inl rfl | exact Or.inr rfl | exact bz_01 _) ?_
          unfold det; rw [c_takeGroupL, if_neg (by omega), if_pos (by omega), if_neg (by rw [c_76]; decide)]; exact ⟨rfl, rfl⟩
theorem t_takeGroup {l : Launch} {G : jG} {d : Nat} {σ : cS} {e : Nat} (hw : wf σ) (hd : 3 ≤ d) (he : kd e = 0) : CJ jCls jown l G (Yx mX0_takeGroup) d 0 0 0 [some (.ref e), none, none, none] [] σ (det (some (vi (bz (c_takeGroup σ e).1))) (c_takeGroup σ e).2) := by
  refine C_aload_n dX0_takeGroup_0 rfl ?_
  refine C_get dX0_takeGroup_1 f_X0_12 (fun h hc => ⟨_, hc.2.2.1 _ he, rfl⟩) ?_
  refine C_aload_n dX0_takeGroup_4 rfl ?_
  refine C_get dX0_takeGroup_5 f_X0_55 (fun h hc => ⟨_, hc.2.2.1 _ he, rfl⟩) ?_
  have g_5 := hw.2.2.1 e 11
  refine D_callV (As := [vi _]) (d' := 1) (t_tagOf hw (Nat.le_refl _) (kE1 he) (by omega)) dX0_takeGroup_8 v_X0_65 (fun h hc => ⟨_, hc.2.1 _ (kE1 he)⟩) rfl (Nat.le_of_ble_eq_true rfl) (by omega) (Nat.le_of_ble_eq_true rfl) ?_
  simp only [Option.toList, List.nil_append, List.cons_append]
  have r_8 := tagOf2 hw (kE1 he) (σ.2.1 e 11)
  refine C_ldc (5590599) dX0_takeGroup_11 k_X0_71 ?_
  refine C_icmp_eq (tgt := 18) dX0_takeGroup_13 (by decide) (by omega) (by omega) (fun c_13 => ?_) (fun c_13 => ?_)
  · refine C_aload_n dX0_takeGroup_18 rfl ?_
    refine C_get dX0_takeGroup_19 f_X0_55 (fun h hc => ⟨_, hc.2.2.1 _ he, rfl⟩) ?_
    have g_19 := hw.2.2.1 e 11
    refine C_istore_n dX0_takeGroup_22 (by decide) rfl ?_
    simp only [List.set_cons_zero, List.set_cons_succ, jfin0, jfin1, jfin2, jfin3]
    refine C_aload_n dX0_takeGroup_23 rfl ?_
    refine C_get dX0_takeGroup_24 f_X0_23 (fun h hc => ⟨_, hc.2.2.1 _ he, rfl⟩) ?_
    refine D_callV (As := []) (d' := 0) (row_size hw (kE12 he)) dX0_takeGroup_27 v_X0_80 (fun h hc => ⟨_, (hc.1 _ (kE12 he)).1⟩) rfl (Nat.le_of_ble_eq_true rfl) (by omega) (Nat.le_of_ble_eq_true rfl) ?_
    simp only [Option.toList, List.nil_append, List.cons_append]
    have r_27 := hw.len (kE12 he)
    refine C_istore_n dX0_takeGroup_30 (by decide) rfl ?_
    simp only [List.set_cons_zero, List.set_cons_succ, jfin0, jfin1, jfin2, jfin3]
    refine C_aload_n dX0_takeGroup_31 rfl ?_
    refine C_dup dX0_takeGroup_32 rfl ?_
    refine C_get dX0_takeGroup_33 f_X0_55 (fun h hc => ⟨_, hc.2.2.1 _ he, rfl⟩) ?_
    have g_33 := hw.2.2.1 e 11
    refine C_iconst dX0_takeGroup_36 ?_
    refine C_iadd dX0_takeGroup_37 ?_
    refine C_put (σ' := (cI σ e 11 ((σ.2.1 e 11) + 1))) dX0_takeGroup_38 f_X0_55 jfit_i (ownE he) (fun h hc => hc.putE11 he) ?_
    have hw2 : wf (cI σ e 11 ((σ.2.1 e 11) + 1)) := wf_I hw (by omega)
    refine C_iconst dX0_takeGroup_41 ?_
    refine C_istore_n dX0_takeGroup_42 (by decide) rfl ?_
    simp only [List.set_cons_zero, List.set_cons_succ, jfin0, jfin1, jfin2, jfin3]
    rw [c_takeGroup, if_pos (by omega)]
    refine CJ.mono (ls' := [some (.ref e), some (vi (σ.2.1 e 11)), some (vi ((σ.1 (e + 12)).length)), some (vi 0)]) (lsub_ok (by repeat (first | exact trivial | refine ⟨rfl, ?_⟩))) (fun _ _ q => q) ?_
    exact t_takeGroupL hw2 hd he (20) (by omega) (by omega) (by omega) (by omega)
  · refine C_iconst dX0_takeGroup_16 ?_
    refine C_zret dX0_takeGroup_17 rfl (by first | exact Or.inl rfl | exact Or.inr rfl | exact bz_01 _) ?_
    unfold det; rw [c_takeGroup, if_neg (by omega)]; exact ⟨rfl, rfl⟩
theorem w_takeGroupL {σ : cS} {e : Nat} {f b k : Int} (hw : wf σ) (he : kd e = 0) (fu : Nat) (hf : -3000 ≤ f ∧ f < 100000000) (hb : 0 ≤ b ∧ b ≤ 2000) (hk : 0 ≤ k ∧ k ≤ 19) : wf (c_takeGroupL e fu f b k σ).2 := by
  induction fu generalizing σ f b k with
  | zero => exact hw
  | succ fu ih =>
    unfold c_takeGroupL
    split
    · split
      · split
        · have g_92 := hw.2.2.1 e 11
          have r_95 := tagOf2 hw (kE1 he) (σ.2.1 e 11)
          have r_107 := hw.len (kE12 he)
          exact hw
        · have g_92 := hw.2.2.1 e 11
          have r_95 := tagOf2 hw (kE1 he) (σ.2.1 e 11)
          have r_107 := hw.len (kE12 he)
          have hw4 : wf (cadd σ (e + 22) f) := wf_add hw (by omega)
          have g_129 := hw.2.2.1 e 11
          have hw5 : wf (cadd (cadd σ (e + 22) f) (e + 24) (σ.2.1 e 11)) := wf_add hw4 (by omega)
          have r_143 := hw5.len (kE12 he)
          have hw6 : wf (cadd (cadd (cadd σ (e + 22) f) (e + 24) (σ.2.1 e 11)) (e + 26) (((cadd (cadd σ (e + 22) f) (e + 24) (σ.2.1 e 11)).1 (e + 12)).length - b)) := wf_add hw5 (by omega)
          have hw7 : wf (cadd (cadd (cadd (cadd σ (e + 22) f) (e + 24) (σ.2.1 e 11)) (e + 26) (((cadd (cadd σ (e + 22) f) (e + 24) (σ.2.1 e 11)).1 (e + 12)).length - b)) (e + 28) 0) := wf_add hw6 (by omega)
          have g_161 := hw.2.2.1 e 11
          have hw8 : wf (cI (cadd (cadd (cadd (cadd σ (e + 22) f) (e + 24) (σ.2.1 e 11)) (e + 26) (((cadd (cadd σ (e + 22) f) (e + 24) (σ.2.1 e 11)).1 (e + 12)).length - b)) (e + 28) 0) e 11 ((σ.2.1 e 11) + 1)) := wf_I hw7 (by omega)
          exact hw8
      · have g_92 := hw.2.2.1 e 11
        have r_95 := tagOf2 hw (kE1 he) (σ.2.1 e 11)
        exact hw
    · split
      · split
        · have g_54 := hw.2.2.1 e 11
          have r_57 := tagOf2 hw (kE1 he) (σ.2.1 e 11)
          have r_70 := hw.len (kE22 he)
          have hw17 : wf (c_takeMessage σ e ((σ.1 (e + 22)).length)).2 := w_takeMessage hw he (by omega)
          exact ih hw17 (by omega) (by omega) (by omega)
        · have g_54 := hw.2.2.1 e 11
          have r_57 := tagOf2 hw (kE1 he) (σ.2.1 e 11)
          have r_70 := hw.len (kE22 he)
          have hw17 : wf (c_takeMessage σ e ((σ.1 (e + 22)).length)).2 := w_takeMessage hw he (by omega)
          exact hw17
      · split
        · split
          · have g_54 := hw.2.2.1 e 11
            have r_57 := tagOf2 hw (kE1 he) (σ.2.1 e 11)
            have g_92 := hw.2.2.1 e 11
            have r_95 := tagOf2 hw (kE1 he) (σ.2.1 e 11)
            have r_107 := hw.len (kE12 he)
            exact hw
          · have g_54 := hw.2.2.1 e 11
            have r_57 := tagOf2 hw (kE1 he) (σ.2.1 e 11)
            have g_92 := hw.2.2.1 e 11
            have r_95 := tagOf2 hw (kE1 he) (σ.2.1 e 11)
            have r_107 := hw.len (kE12 he)
            have hw12 : wf (cadd σ (e + 22) f) := wf_add hw (by omega)
            have g_129 := hw.2.2.1 e 11
            have hw13 : wf (cadd (cadd σ (e + 22) f) (e + 24) (σ.2.1 e 11)) := wf_add hw12 (by omega)
            have r_143 := hw13.len (kE12 he)
            have hw14 : wf (cadd (cadd (cadd σ (e + 22) f) (e + 24) (σ.2.1 e 11)) (e + 26) (((cadd (cadd σ (e + 22) f) (e + 24) (σ.2.1 e 11)).1 (e + 12)).length - b)) := wf_add hw13 (by omega)
            have hw15 : wf (cadd (cadd (cadd (cadd σ (e + 22) f) (e + 24) (σ.2.1 e 11)) (e + 26) (((cadd (cadd σ (e + 22) f) (e + 24) (σ.2.1 e 11)).1 (e + 12)).length - b)) (e + 28) 0) := wf_add hw14 (by omega)
            have g_161 := hw.2.2.1 e 11
            have hw16 : wf (cI (cadd (cadd (cadd (cadd σ (e + 22) f) (e + 24) (σ.2.1 e 11)) (e + 26) (((cadd (cadd σ (e + 22) f) (e + 24) (σ.2.1 e 11)).1 (e + 12)).length - b)) (e + 28) 0) e 11 ((σ.2.1 e 11) + 1)) := wf_I hw15 (by omega)
            exact hw16
        · have g_54 := hw.2.2.1 e 11
          have r_57 := tagOf2 hw (kE1 he) (σ.2.1 e 11)
          have g_92 := hw.2.2.1 e 11
          have r_95 := tagOf2 hw (kE1 he) (σ.2.1 e 11)
          exact hw
theorem w_takeGroup {σ : cS} {e : Nat} (hw : wf σ) (he : kd e = 0) : wf (c_takeGroup σ e).2 := by
  unfold c_takeGroup
  split
  · have g_5 := hw.2.2.1 e 11
    have r_8 := tagOf2 hw (kE1 he) (σ.2.1 e 11)
    have g_19 := hw.2.2.1 e 11
    have r_27 := hw.len (kE12 he)
    have g_33 := hw.2.2.1 e 11
    have hw2 : wf (cI σ e 11 ((σ.2.1 e 11) + 1)) := wf_I hw (by omega)
    exact w_takeGroupL hw2 he (20) (by omega) (by omega) (by omega)
  · have g_5 := hw.2.2.1 e 11
    have r_8 := tagOf2 hw (kE1 he) (σ.2.1 e 11)
    exact hw
def c_fitL (e : Nat) : Nat → Int → Int → Int → cS → Bool × cS
  | 0, _, _, _, σ => (false, σ)
  | fu + 1, n, g, k, σ => (if 19 ≤ k then (if (σ.2.1 e 11) = n then (if (σ.1 (e + 12)).length ≤ 0 then (false, σ) else (true, σ)) else (false, σ)) else (if n ≤ (σ.2.1 e 11) then (if (σ.2.1 e 11) = n then (if (σ.1 (e + 12)).length ≤ 0 then (false, σ) else (true, σ)) else (false, σ)) else (if g = 0 then (if (c_takeMessage σ e (-1)).1 = true then (c_fitL e fu n g (k + 1) (c_takeMessage σ e (-1)).2) else (false, (c_takeMessage σ e (-1)).2)) else (if (c_takeGroup σ e).1 = true then (c_fitL e fu n g (k + 1) (c_takeGroup σ e).2) else (false, (c_takeGroup σ e).2)))))
def c_fit (σ : cS) (e : Nat) : Bool × cS := (if (c_tagOf (c_eempty σ e) (e + 1) 0) = 5590594 then (if (c_tagOf (c_eempty σ e) (e + 1) ((c_segmentCount (c_eempty σ e) (e + 1)) - 1)) = 5590618 then (if (c_tagOf (c_eempty σ e) (e + 1) 1) = 5590599 then (c_fitL e (20) ((c_segmentCount (c_eempty σ e) (e + 1)) - 1) 1 0 (cI (c_eempty σ e) e 11 1)) else (c_fitL e (20) ((c_segmentCount (c_eempty σ e) (e + 1)) - 1) 0 0 (cI (c_eempty σ e) e 11 1))) else (false, (c_eempty σ e))) else (false, (c_eempty σ e)))
theorem t_fitL {l : Launch} {G : jG} {d : Nat} {σ : cS} {e : Nat} {n g k : Int} (hw : wf σ) (hd : 4 ≤ d) (he : kd e = 0) (fu : Nat) (hn : -3000 ≤ n ∧ n < 100000000) (hg : 0 ≤ g ∧ g ≤ 1) (hk : 0 ≤ k ∧ k ≤ 19) (hm : 19 - k < (fu : Int)) : CJ jCls jown l G (Yx mX0_fit) d 0 0 68 [some (.ref e), some (vi n), some (vi g), some (vi k)] [] σ (det (some (vi (bz (c_fitL e fu n g k σ).1))) (c_fitL e fu n g k σ).2) := by
  induction fu generalizing σ n g k with
  | zero => exact absurd hm (by omega)
  | succ fu ih =>
    refine C_iload_n dX0_fit_68 rfl ?_
    refine C_bipush dX0_fit_69 (by decide) ?_
    refine C_icmp_ge (tgt := 112) dX0_fit_71 (by decide) (by omega) (by omega) (fun c_71 => ?_) (fun c_71 => ?_)
    · refine C_aload_n dX0_fit_112 rfl ?_
      refine C_get dX0_fit_113 f_X0_55 (fun h hc => ⟨_, hc.2.2.1 _ he, rfl⟩) ?_
      have g_113 := hw.2.2.1 e 11
      refine C_iload_n dX0_fit_116 rfl ?_
      refine C_icmp_ne (tgt := 134) dX0_fit_117 (by decide) (by omega) (by omega) (fun c_117 => ?_) (fun c_117 => ?_)
      · refine C_iconst dX0_fit_134 ?_
        refine C_zret dX0_fit_135 rfl (by first | exact Or.inl rfl | exact Or.inr rfl | exact bz_01 _) ?_
        unfold det; rw [c_fitL, if_pos (by omega), if_neg (by omega)]; exact ⟨rfl, rfl⟩
      · refine C_aload_n dX0_fit_120 rfl ?_
        refine C_get dX0_fit_121 f_X0_23 (fun h hc => ⟨_, hc.2.2.1 _ he, rfl⟩) ?_
        refine D_callV (As := []) (d' := 0) (row_size hw (kE12 he)) dX0_fit_124 v_X0_80 (fun h hc => ⟨_, (hc.1 _ (kE12 he)).1⟩) rfl (Nat.le_of_ble_eq_true rfl) (by omega) (Nat.le_of_ble_eq_true rfl) ?_
        simp only [Option.toList, List.nil_append, List.cons_append]
        have r_124 := hw.len (kE12 he)
        refine C_if_le (tgt := 134) dX0_fit_127 (by decide) (by omega) (fun c_127 => ?_) (fun c_127 => ?_)
        · refine C_iconst dX0_fit_134 ?_
          refine C_zret dX0_fit_135 rfl (by first | exact Or.inl rfl | exact Or.inr rfl | exact bz_01 _) ?_
          unfold det; rw [c_fitL, if_pos (by omega), if_pos (by omega), if_pos (by omega)]; exact ⟨rfl, rfl⟩
        · refine C_iconst dX0_fit_130 ?_
          refine C_goto (tgt := 135) dX0_fit_131 (by decide) ?_
          refine C_zret dX0_fit_135 rfl (by first | exact Or.inl rfl | exact Or.inr rfl | exact bz_01 _) ?_
          unfold det; rw [c_fitL, if_pos (by omega), if_pos (by omega), if_neg (by omega)]; exact ⟨rfl, rfl⟩
    · refine C_aload_n dX0_fit_74 rfl ?_
      refine C_get dX0_fit_75 f_X0_55 (fun h hc => ⟨_, hc.2.2.1 _ he, rfl⟩) ?_
      have g_75 := hw.2.2.1 e 11
      refine C_iload_n dX0_fit_78 rfl ?_
      refine C_icmp_ge (tgt := 112) dX0_fit_79 (by decide) (by omega) (by omega) (fun c_79 => ?_) (fun c_79 => ?_)
      · refine C_aload_n dX0_fit_112 rfl ?_
        refine C_get dX0_fit_113 f_X0_55 (fun h hc => ⟨_, hc.2.2.1 _ he, rfl⟩) ?_
        have g_113 := hw.2.2.1 e 11
        refine C_iload_n dX0_fit_116 rfl ?_
        refine C_icmp_ne (tgt := 134) dX0_fit_117 (by decide) (by omega) (by omega) (fun c_117 => ?_) (fun c_117 => ?_)
        · refine C_iconst dX0_fit_134 ?_
          refine C_zret dX0_fit_135 rfl (by first | exact Or.inl rfl | exact Or.inr rfl | exact bz_01 _) ?_
          unfold det; rw [c_fitL, if_neg (by omega), if_pos (by omega), if_neg (by omega)]; exact ⟨rfl, rfl⟩
        · refine C_aload_n dX0_fit_120 rfl ?_
          refine C_get dX0_fit_121 f_X0_23 (fun h hc => ⟨_, hc.2.2.1 _ he, rfl⟩) ?_
          refine D_callV (As := []) (d' := 0) (row_size hw (kE12 he)) dX0_fit_124 v_X0_80 (fun h hc => ⟨_, (hc.1 _ (kE12 he)).1⟩) rfl (Nat.le_of_ble_eq_true rfl) (by omega) (Nat.le_of_ble_eq_true rfl) ?_
          simp only [Option.toList, List.nil_append, List.cons_append]
          have r_124 := hw.len (kE12 he)
          refine C_if_le (tgt := 134) dX0_fit_127 (by decide) (by omega) (fun c_127 => ?_) (fun c_127 => ?_)
          · refine C_iconst dX0_fit_134 ?_
            refine C_zret dX0_fit_135 rfl (by first | exact Or.inl rfl | exact Or.inr rfl | exact bz_01 _) ?_
            unfold det; rw [c_fitL, if_neg (by omega), if_pos (by omega), if_pos (by omega), if_pos (by omega)]; exact ⟨rfl, rfl⟩
          · refine C_iconst dX0_fit_130 ?_
            refine C_goto (tgt := 135) dX0_fit_131 (by decide) ?_
            refine C_zret dX0_fit_135 rfl (by first | exact Or.inl rfl | exact Or.inr rfl | exact bz_01 _) ?_
            unfold det; rw [c_fitL, if_neg (by omega), if_pos (by omega), if_pos (by omega), if_neg (by omega)]; exact ⟨rfl, rfl⟩
      · refine C_iload_n dX0_fit_82 rfl ?_
        refine C_if_eq (tgt := 96) dX0_fit_83 (by decide) (by omega) (fun c_83 => ?_) (fun c_83 => ?_)
        · refine C_aload_n dX0_fit_96 rfl ?_
          refine C_iconst dX0_fit_97 ?_
          refine D_callV (As := [vi _]) (d' := 2) (t_takeMessage hw (Nat.le_refl _) he (by omega)) dX0_fit_98 v_X0_76 (fun h hc => ⟨_, hc.2.2.1 _ he⟩) rfl (Nat.le_of_ble_eq_true rfl) (by omega) (Nat.le_of_ble_eq_true rfl) ?_
          simp only [Option.toList, List.nil_append, List.cons_append]
          have hw8 : wf (c_takeMessage σ e (-1)).2 := w_takeMessage hw he (by omega)
          refine C_if_neZ (tgt := 106) dX0_fit_101 (by decide) (fun c_101 => ?_) (fun c_101 => ?_)
          · refine C_iinc dX0_fit_106 rfl (by decide) rfl ?_
            simp only [List.set_cons_zero, List.set_cons_succ]
            refine C_goto (tgt := 68) dX0_fit_109 (by decide) ?_
            rw [c_fitL, if_neg (by omega), if_neg (by omega), if_pos (by omega), if_pos c_101]
            refine CJ.mono (ls' := [some (.ref e), some (vi n), some (vi g), some (vi (k + 1))]) (lsub_ok (by repeat (first | exact trivial | refine ⟨rfl, ?_⟩))) (fun _ _ q => q) ?_
            exact ih hw8 (by omega) (by omega) (by omega) (by omega)
          · refine C_iconst dX0_fit_104 ?_
            refine C_zret dX0_fit_105 rfl (by first | exact Or.inl rfl | exact Or.inr rfl | exact bz_01 _) ?_
            unfold det; rw [c_fitL, if_neg (by omega), if_neg (by omega), if_pos (by omega), if_neg (by rw [c_101]; decide)]; exact ⟨rfl, rfl⟩
        · refine C_aload_n dX0_fit_86 rfl ?_
          refine D_callV (As := []) (d' := 3) (t_takeGroup hw (Nat.le_refl _) he) dX0_fit_87 v_X0_72 (fun h hc => ⟨_, hc.2.2.1 _ he⟩) rfl (Nat.le_of_ble_eq_true rfl) (by omega) (Nat.le_of_ble_eq_true rfl) ?_
          simp only [Option.toList, List.nil_append, List.cons_append]
          have hw10 : wf (c_takeGroup σ e).2 := w_takeGroup hw he
          refine C_if_eqZ (tgt := 104) dX0_fit_90 (by decide) (fun c_90 => ?_) (fun c_90 => ?_)
          · refine C_iconst dX0_fit_104 ?_
            refine C_zret dX0_fit_105 rfl (by first | exact Or.inl rfl | exact Or.inr rfl | exact bz_01 _) ?_
            unfold det; rw [c_fitL, if_neg (by omega), if_neg (by omega), if_neg (by omega), if_neg (by rw [c_90]; decide)]; exact ⟨rfl, rfl⟩
          · refine C_goto (tgt := 106) dX0_fit_93 (by decide) ?_
            refine C_iinc dX0_fit_106 rfl (by decide) rfl ?_
            simp only [List.set_cons_zero, List.set_cons_succ]
            refine C_goto (tgt := 68) dX0_fit_109 (by decide) ?_
            rw [c_fitL, if_neg (by omega), if_neg (by omega), if_neg (by omega), if_pos c_90]
            refine CJ.mono (ls' := [some (.ref e), some (vi n), some (vi g), some (vi (k + 1))]) (lsub_ok (by repeat (first | exact trivial | refine ⟨rfl, ?_⟩))) (fun _ _ q => q) ?_
            exact ih hw10 (by omega) (by omega) (by omega) (by omega)
theorem t_fit {l : Launch} {G : jG} {d : Nat} {σ : cS} {e : Nat} (hw : wf σ) (hd : 4 ≤ d) (he : kd e = 0) : CJ jCls jown l G (Yx mX0_fit) d 0 0 0 [some (.ref e), none, none, none] [] σ (det (some (vi (bz (c_fit σ e).1))) (c_fit σ e).2) := by
  refine C_aload_n dX0_fit_0 rfl ?_
  refine D_callV (As := []) (d' := 1) (t_eempty hw (Nat.le_refl _) he) dX0_fit_1 v_X0_58 (fun h hc => ⟨_, hc.2.2.1 _ he⟩) rfl (Nat.le_of_ble_eq_true rfl) (by omega) (Nat.le_of_ble_eq_true rfl) ?_
  simp only [Option.toList, List.nil_append, List.cons_append]
  have hw1 : wf (c_eempty σ e) := w_eempty hw he
  refine C_aload_n dX0_fit_4 rfl ?_
  refine C_get dX0_fit_5 f_X0_12 (fun h hc => ⟨_, hc.2.2.1 _ he, rfl⟩) ?_
  refine D_callV (As := []) (d' := 1) (t_segmentCount hw1 (Nat.le_refl _) (kE1 he)) dX0_fit_8 v_X0_61 (fun h hc => ⟨_, hc.2.1 _ (kE1 he)⟩) rfl (Nat.le_of_ble_eq_true rfl) (by omega) (Nat.le_of_ble_eq_true rfl) ?_
  simp only [Option.toList, List.nil_append, List.cons_append]
  have r_8 := r_segmentCount (p := e + 1) hw1 (kE1 he)
  refine C_iconst dX0_fit_11 ?_
  refine C_isub dX0_fit_12 ?_
  refine C_istore_n dX0_fit_13 (by decide) rfl ?_
  simp only [List.set_cons_zero, List.set_cons_succ, jfin0, jfin1, jfin2, jfin3]
  refine C_aload_n dX0_fit_14 rfl ?_
  refine C_get dX0_fit_15 f_X0_12 (fun h hc => ⟨_, hc.2.2.1 _ he, rfl⟩) ?_
  refine C_iconst dX0_fit_18 ?_
  refine D_callV (As := [vi _]) (d' := 1) (t_tagOf hw1 (Nat.le_refl _) (kE1 he) (by omega)) dX0_fit_19 v_X0_65 (fun h hc => ⟨_, hc.2.1 _ (kE1 he)⟩) rfl (Nat.le_of_ble_eq_true rfl) (by omega) (Nat.le_of_ble_eq_true rfl) ?_
  simp only [Option.toList, List.nil_append, List.cons_append]
  have r_19 := tagOf2 hw1 (kE1 he) 0
  refine C_ldc (5590594) dX0_fit_22 k_X0_69 ?_
  refine C_icmp_ne (tgt := 40) dX0_fit_24 (by decide) (by omega) (by omega) (fun c_24 => ?_) (fun c_24 => ?_)
  · refine C_iconst dX0_fit_40 ?_
    refine C_zret dX0_fit_41 rfl (by first | exact Or.inl rfl | exact Or.inr rfl | exact bz_01 _) ?_
    unfold det; rw [c_fit, if_neg (by omega)]; exact ⟨rfl, rfl⟩
  · refine C_aload_n dX0_fit_27 rfl ?_
    refine C_get dX0_fit_28 f_X0_12 (fun h hc => ⟨_, hc.2.2.1 _ he, rfl⟩) ?_
    refine C_iload_n dX0_fit_31 rfl ?_
    refine D_callV (As := [vi _]) (d' := 1) (t_tagOf hw1 (Nat.le_refl _) (kE1 he) (by omega)) dX0_fit_32 v_X0_65 (fun h hc => ⟨_, hc.2.1 _ (kE1 he)⟩) rfl (Nat.le_of_ble_eq_true rfl) (by omega) (Nat.le_of_ble_eq_true rfl) ?_
    simp only [Option.toList, List.nil_append, List.cons_append]
    have r_32 := tagOf2 hw1 (kE1 he) ((c_segmentCount (c_eempty σ e) (e + 1)) - 1)
    refine C_ldc (5590618) dX0_fit_35 k_X0_70 ?_
    refine C_icmp_eq (tgt := 42) dX0_fit_37 (by decide) (by omega) (by omega) (fun c_37 => ?_) (fun c_37 => ?_)
    · refine C_aload_n dX0_fit_42 rfl ?_
      refine C_get dX0_fit_43 f_X0_12 (fun h hc => ⟨_, hc.2.2.1 _ he, rfl⟩) ?_
      refine C_iconst dX0_fit_46 ?_
      refine D_callV (As := [vi _]) (d' := 1) (t_tagOf hw1 (Nat.le_refl _) (kE1 he) (by omega)) dX0_fit_47 v_X0_65 (fun h hc => ⟨_, hc.2.1 _ (kE1 he)⟩) rfl (Nat.le_of_ble_eq_true rfl) (by omega) (Nat.le_of_ble_eq_true rfl) ?_
      simp only [Option.toList, List.nil_append, List.cons_append]
      have r_47 := tagOf2 hw1 (kE1 he) 1
      refine C_ldc (5590599) dX0_fit_50 k_X0_71 ?_
      refine C_icmp_ne (tgt := 59) dX0_fit_52 (by decide) (by omega) (by omega) (fun c_52 => ?_) (fun c_52 => ?_)
      · refine C_iconst dX0_fit_59 ?_
        refine C_istore_n dX0_fit_60 (by decide) rfl ?_
        simp only [List.set_cons_zero, List.set_cons_succ, jfin0, jfin1, jfin2, jfin3]
        refine C_aload_n dX0_fit_61 rfl ?_
        refine C_iconst dX0_fit_62 ?_
        refine C_put (σ' := (cI (c_eempty σ e) e 11 1)) dX0_fit_63 f_X0_55 jfit_i (ownE he) (fun h hc => hc.putE11 he) ?_
        have hw5 : wf (cI (c_eempty σ e) e 11 1) := wf_I hw1 (by omega)
        refine C_iconst dX0_fit_66 ?_
        refine C_istore_n dX0_fit_67 (by decide) rfl ?_
        simp only [List.set_cons_zero, List.set_cons_succ, jfin0, jfin1, jfin2, jfin3]
        rw [c_fit, if_pos (by omega), if_pos (by omega), if_neg (by omega)]
        refine CJ.mono (ls' := [some (.ref e), some (vi ((c_segmentCount (c_eempty σ e) (e + 1)) - 1)), some (vi 0), some (vi 0)]) (lsub_ok (by repeat (first | exact trivial | refine ⟨rfl, ?_⟩))) (fun _ _ q => q) ?_
        exact t_fitL hw5 hd he (20) (by omega) (by omega) (by omega) (by omega)
      · refine C_iconst dX0_fit_55 ?_
        refine C_goto (tgt := 60) dX0_fit_56 (by decide) ?_
        refine C_istore_n dX0_fit_60 (by decide) rfl ?_
        simp only [List.set_cons_zero, List.set_cons_succ, jfin0, jfin1, jfin2, jfin3]
        refine C_aload_n dX0_fit_61 rfl ?_
        refine C_iconst dX0_fit_62 ?_
        refine C_put (σ' := (cI (c_eempty σ e) e 11 1)) dX0_fit_63 f_X0_55 jfit_i (ownE he) (fun h hc => hc.putE11 he) ?_
        have hw6 : wf (cI (c_eempty σ e) e 11 1) := wf_I hw1 (by omega)
        refine C_iconst dX0_fit_66 ?_
        refine C_istore_n dX0_fit_67 (by decide) rfl ?_
        simp only [List.set_cons_zero, List.set_cons_succ, jfin0, jfin1, jfin2, jfin3]
        rw [c_fit, if_pos (by omega), if_pos (by omega), if_pos (by omega)]
        refine CJ.mono (ls' := [some (.ref e), some (vi ((c_segmentCount (c_eempty σ e) (e + 1)) - 1)), some (vi 1), some (vi 0)]) (lsub_ok (by repeat (first | exact trivial | refine ⟨rfl, ?_⟩))) (fun _ _ q => q) ?_
        exact t_fitL hw6 hd he (20) (by omega) (by omega) (by omega) (by omega)
    · refine C_iconst dX0_fit_40 ?_
      refine C_zret dX0_fit_41 rfl (by first | exact Or.inl rfl | exact Or.inr rfl | exact bz_01 _) ?_
      unfold det; rw [c_fit, if_pos (by omega), if_neg (by omega)]; exact ⟨rfl, rfl⟩
theorem w_fitL {σ : cS} {e : Nat} {n g k : Int} (hw : wf σ) (he : kd e = 0) (fu : Nat) (hn : -3000 ≤ n ∧ n < 100000000) (hg : 0 ≤ g ∧ g ≤ 1) (hk : 0 ≤ k ∧ k ≤ 19) : wf (c_fitL e fu n g k σ).2 := by
  induction fu generalizing σ n g k with
  | zero => exact hw
  | succ fu ih =>
    unfold c_fitL
    split
    · split
      · split
        · have g_113 := hw.2.2.1 e 11
          have r_124 := hw.len (kE12 he)
          exact hw
        · have g_113 := hw.2.2.1 e 11
          have r_124 := hw.len (kE12 he)
          exact hw
      · have g_113 := hw.2.2.1 e 11
        exact hw
    · split
      · split
        · split
          · have g_75 := hw.2.2.1 e 11
            have g_113 := hw.2.2.1 e 11
            have r_124 := hw.len (kE12 he)
            exact hw
          · have g_75 := hw.2.2.1 e 11
            have g_113 := hw.2.2.1 e 11
            have r_124 := hw.len (kE12 he)
            exact hw
        · have g_75 := hw.2.2.1 e 11
          have g_113 := hw.2.2.1 e 11
          exact hw
      · split
        · split
          · have g_75 := hw.2.2.1 e 11
            have hw8 : wf (c_takeMessage σ e (-1)).2 := w_takeMessage hw he (by omega)
            exact ih hw8 (by omega) (by omega) (by omega)
          · have g_75 := hw.2.2.1 e 11
            have hw8 : wf (c_takeMessage σ e (-1)).2 := w_takeMessage hw he (by omega)
            exact hw8
        · split
          · have g_75 := hw.2.2.1 e 11
            have hw10 : wf (c_takeGroup σ e).2 := w_takeGroup hw he
            exact ih hw10 (by omega) (by omega) (by omega)
          · have g_75 := hw.2.2.1 e 11
            have hw10 : wf (c_takeGroup σ e).2 := w_takeGroup hw he
            exact hw10
theorem w_fit {σ : cS} {e : Nat} (hw : wf σ) (he : kd e = 0) : wf (c_fit σ e).2 := by
  unfold c_fit
  split
  · split
    · split
      · have hw1 : wf (c_eempty σ e) := w_eempty hw he
        have r_8 := r_segmentCount (p := e + 1) hw1 (kE1 he)
        have r_19 := tagOf2 hw1 (kE1 he) 0
        have r_32 := tagOf2 hw1 (kE1 he) ((c_segmentCount (c_eempty σ e) (e + 1)) - 1)
        have r_47 := tagOf2 hw1 (kE1 he) 1
        have hw6 : wf (cI (c_eempty σ e) e 11 1) := wf_I hw1 (by omega)
        exact w_fitL hw6 he (20) (by omega) (by omega) (by omega)
      · have hw1 : wf (c_eempty σ e) := w_eempty hw he
        have r_8 := r_segmentCount (p := e + 1) hw1 (kE1 he)
        have r_19 := tagOf2 hw1 (kE1 he) 0
        have r_32 := tagOf2 hw1 (kE1 he) ((c_segmentCount (c_eempty σ e) (e + 1)) - 1)
        have r_47 := tagOf2 hw1 (kE1 he) 1
        have hw5 : wf (cI (c_eempty σ e) e 11 1) := wf_I hw1 (by omega)
        exact w_fitL hw5 he (20) (by omega) (by omega) (by omega)
    · have hw1 : wf (c_eempty σ e) := w_eempty hw he
      have r_8 := r_segmentCount (p := e + 1) hw1 (kE1 he)
      have r_19 := tagOf2 hw1 (kE1 he) 0
      have r_32 := tagOf2 hw1 (kE1 he) ((c_segmentCount (c_eempty σ e) (e + 1)) - 1)
      exact hw1
  · have hw1 : wf (c_eempty σ e) := w_eempty hw he
    have r_8 := r_segmentCount (p := e + 1) hw1 (kE1 he)
    have r_19 := tagOf2 hw1 (kE1 he) 0
    exact hw1
