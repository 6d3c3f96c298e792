def lsub : List (Option Value) → List (Option Value) → Prop
  | [], _ => True
  | none :: a, _ :: b => lsub a b
  | some v :: a, x :: b => x = some v ∧ lsub a b
  | _ :: _, [] => False
theorem lsub_ok : ∀ {ls' ls : List (Option Value)}, lsub ls' ls → ∀ (i : Nat) (v : Value), ls'[i]? = some (some v) → ls[i]? = some (some v)
  | [], _, _, i, v, h => by simp at h
  | none :: a, x :: b, hs, i, v, h => by
    cases i with
    | zero => simp at h
    | succ i => simpa using lsub_ok (ls' := a) hs i v (by simpa using h)
  | some u :: a, x :: b, hs, i, v, h => by
    cases i with
    | zero => simp at h ⊢; rw [← h]; exact hs.1
    | succ i => simpa using lsub_ok (ls' := a) hs.2 i v (by simpa using h)
  | none :: _, [], hs, _, _, _ => hs.elim
  | some _ :: _, [], hs, _, _, _ => hs.elim
def c_goOnL (t : Nat) : Nat → Int → Int → cS → cS
  | 0, _, _, σ => σ
  | fu + 1, nx, k, σ => (if (σ.1 (t + 7)).length ≤ k then (cput (cI σ t 8 nx) (t + 9) nx 0) else (if (rat (σ.1 (t + 7)) k) = (σ.2.1 t 7) then (cput (cI σ t 8 k) (t + 9) k 0) else (c_goOnL t fu nx (k + 1) σ)))
def c_goOn (σ : cS) (t : Nat) : cS := (c_goOnL t (200003002) (-1) ((σ.2.1 t 8) + 1) σ)
theorem t_goOnL {l : Launch} {G : jG} {d : Nat} {σ : cS} {t : Nat} {nx k : Int} (hw : wf σ) (hd : 1 ≤ d) (ht : kd t = 4) (fu : Nat) (hnx : nx = -1) (hk : -3000 ≤ k ∧ k < 200000000) (hm : 200000000 - k < (fu : Int)) : CJ jCls jown l G (Yx mX4_goOn) d 0 0 9 [some (.ref t), some (vi nx), some (vi k)] [] σ (det none (c_goOnL t fu nx k σ)) := by
  induction fu generalizing σ nx k with
  | zero => exact absurd hm (by omega)
  | succ fu ih =>
    refine C_iload_n dX4_goOn_9 rfl ?_
    refine C_aload_n dX4_goOn_10 rfl ?_
    refine C_get dX4_goOn_11 f_X4_26 (fun h hc => ⟨_, hc.2.2.2.1 _ ht, rfl⟩) ?_
    refine D_callV (As := []) (d' := 0) (row_size hw (kT7 ht)) dX4_goOn_14 v_X4_45 (fun h hc => ⟨_, (hc.1 _ (kT7 ht)).1⟩) rfl (Nat.le_of_ble_eq_true rfl) (by omega) (Nat.le_of_ble_eq_true rfl) ?_
    simp only [Option.toList, List.nil_append, List.cons_append]
    have r_14 := hw.len (kT7 ht)
    refine C_icmp_ge (tgt := 46) dX4_goOn_17 (by decide) (by omega) (by omega) (fun c_17 => ?_) (fun c_17 => ?_)
    · refine C_aload_n dX4_goOn_46 rfl ?_
      refine C_iload_n dX4_goOn_47 rfl ?_
      refine C_put (σ' := (cI σ t 8 nx)) dX4_goOn_48 f_X4_42 jfit_i (ownT ht) (fun h hc => hc.putT8 ht) ?_
      have hw2 : wf (cI σ t 8 nx) := wf_I hw (by omega)
      refine C_aload_n dX4_goOn_51 rfl ?_
      refine C_get dX4_goOn_52 f_X4_36 (fun h hc => ⟨_, hc.2.2.2.1 _ ht, rfl⟩) ?_
      refine C_aload_n dX4_goOn_55 rfl ?_
      refine C_get (v := vi nx) dX4_goOn_56 f_X4_42 (fun h hc => ⟨_, hc.2.2.2.1 _ ht, congrArg (fun z => some (vi z)) (show ((cI σ t 8 nx).2.1 t 8) = nx by simp [cI, upI, cadd, cput, cemp])⟩) ?_
      refine C_iconst dX4_goOn_59 ?_
      refine D_callV (As := [vi _, vi _]) (d' := 0) (row_put hw2 (kT9 ht) (by omega) (by omega)) dX4_goOn_60 v_X4_82 (fun h hc => ⟨_, (hc.1 _ (kT9 ht)).1⟩) rfl (Nat.le_of_ble_eq_true rfl) (by omega) (Nat.le_of_ble_eq_true rfl) ?_
      simp only [Option.toList, List.nil_append, List.cons_append]
      have hw3 : wf (cput (cI σ t 8 nx) (t + 9) nx 0) := wf_put hw2 (by omega)
      refine C_vret dX4_goOn_63 rfl ⟨rfl, ?_⟩
      rw [c_goOnL, if_pos (by omega)]
    · refine C_aload_n dX4_goOn_20 rfl ?_
      refine C_get dX4_goOn_21 f_X4_26 (fun h hc => ⟨_, hc.2.2.2.1 _ ht, rfl⟩) ?_
      refine C_iload_n dX4_goOn_24 rfl ?_
      refine D_callV (As := [vi _]) (d' := 0) (row_at hw (kT7 ht) (by omega)) dX4_goOn_25 v_X4_60 (fun h hc => ⟨_, (hc.1 _ (kT7 ht)).1⟩) rfl (Nat.le_of_ble_eq_true rfl) (by omega) (Nat.le_of_ble_eq_true rfl) ?_
      simp only [Option.toList, List.nil_append, List.cons_append]
      have r_25 := hw.ra2 (kT7 ht) k
      refine C_aload_n dX4_goOn_28 rfl ?_
      refine C_get dX4_goOn_29 f_X4_39 (fun h hc => ⟨_, hc.2.2.2.1 _ ht, rfl⟩) ?_
      have g_29 := hw.2.2.1 t 7
      refine C_icmp_ne (tgt := 40) dX4_goOn_32 (by decide) (by omega) (by omega) (fun c_32 => ?_) (fun c_32 => ?_)
      · refine C_iinc dX4_goOn_40 rfl (by decide) rfl ?_
        simp only [List.set_cons_zero, List.set_cons_succ]
        refine C_goto (tgt := 9) dX4_goOn_43 (by decide) ?_
        rw [c_goOnL, if_neg (by omega), if_neg (by omega)]
        refine CJ.mono (ls' := [some (.ref t), some (vi nx), some (vi (k + 1))]) (lsub_ok (by repeat (first | exact trivial | refine ⟨rfl, ?_⟩))) (fun _ _ q => q) ?_
        exact ih hw (by omega) (by omega) (by omega)
      · refine C_iload_n dX4_goOn_35 rfl ?_
        refine C_istore_n dX4_goOn_36 (by decide) rfl ?_
        simp only [List.set_cons_zero, List.set_cons_succ, jfin0, jfin1, jfin2, jfin3]
        refine C_goto (tgt := 46) dX4_goOn_37 (by decide) ?_
        refine C_aload_n dX4_goOn_46 rfl ?_
        refine C_iload_n dX4_goOn_47 rfl ?_
        refine C_put (σ' := (cI σ t 8 k)) dX4_goOn_48 f_X4_42 jfit_i (ownT ht) (fun h hc => hc.putT8 ht) ?_
        have hw5 : wf (cI σ t 8 k) := wf_I hw (by omega)
        refine C_aload_n dX4_goOn_51 rfl ?_
        refine C_get dX4_goOn_52 f_X4_36 (fun h hc => ⟨_, hc.2.2.2.1 _ ht, rfl⟩) ?_
        refine C_aload_n dX4_goOn_55 rfl ?_
        refine C_get (v := vi k) dX4_goOn_56 f_X4_42 (fun h hc => ⟨_, hc.2.2.2.1 _ ht, congrArg (fun z => some (vi z)) (show ((cI σ t 8 k).2.1 t 8) = k by simp [cI, upI, cadd, cput, cemp])⟩) ?_
        refine C_iconst dX4_goOn_59 ?_
        refine D_callV (As := [vi _, vi _]) (d' := 0) (row_put hw5 (kT9 ht) (by omega) (by omega)) dX4_goOn_60 v_X4_82 (fun h hc => ⟨_, (hc.1 _ (kT9 ht)).1⟩) rfl (Nat.le_of_ble_eq_true rfl) (by omega) (Nat.le_of_ble_eq_true rfl) ?_
        simp only [Option.toList, List.nil_append, List.cons_append]
        have hw6 : wf (cput (cI σ t 8 k) (t + 9) k 0) := wf_put hw5 (by omega)
        refine C_vret dX4_goOn_63 rfl ⟨rfl, ?_⟩
        rw [c_goOnL, if_neg (by omega), if_pos (by omega)]
theorem t_goOn {l : Launch} {G : jG} {d : Nat} {σ : cS} {t : Nat} (hw : wf σ) (hd : 1 ≤ d) (ht : kd t = 4) : CJ jCls jown l G (Yx mX4_goOn) d 0 0 0 [some (.ref t), none, none] [] σ (det none (c_goOn σ t)) := by
  refine C_iconst dX4_goOn_0 ?_
  refine C_istore_n dX4_goOn_1 (by decide) rfl ?_
  simp only [List.set_cons_zero, List.set_cons_succ, jfin0, jfin1, jfin2, jfin3]
  refine C_aload_n dX4_goOn_2 rfl ?_
  refine C_get dX4_goOn_3 f_X4_42 (fun h hc => ⟨_, hc.2.2.2.1 _ ht, rfl⟩) ?_
  have g_3 := hw.2.2.1 t 8
  refine C_iconst dX4_goOn_6 ?_
  refine C_iadd dX4_goOn_7 ?_
  refine C_istore_n dX4_goOn_8 (by decide) rfl ?_
  simp only [List.set_cons_zero, List.set_cons_succ, jfin0, jfin1, jfin2, jfin3]
  rw [c_goOn]
  refine CJ.mono (ls' := [some (.ref t), some (vi (-1)), some (vi ((σ.2.1 t 8) + 1))]) (lsub_ok (by repeat (first | exact trivial | refine ⟨rfl, ?_⟩))) (fun _ _ q => q) ?_
  exact t_goOnL hw hd ht (200003002) (by omega) (by omega) (by omega)
theorem w_goOnL {σ : cS} {t : Nat} {nx k : Int} (hw : wf σ) (ht : kd t = 4) (fu : Nat) (hnx : nx = -1) (hk : -3000 ≤ k ∧ k < 200000000) : wf (c_goOnL t fu nx k σ) := by
  induction fu generalizing σ nx k with
  | zero => exact hw
  | succ fu ih =>
    unfold c_goOnL
    split
    · have r_14 := hw.len (kT7 ht)
      have hw2 : wf (cI σ t 8 nx) := wf_I hw (by omega)
      have hw3 : wf (cput (cI σ t 8 nx) (t + 9) nx 0) := wf_put hw2 (by omega)
      exact hw3
    · split
      · have r_14 := hw.len (kT7 ht)
        have r_25 := hw.ra2 (kT7 ht) k
        have g_29 := hw.2.2.1 t 7
        have hw5 : wf (cI σ t 8 k) := wf_I hw (by omega)
        have hw6 : wf (cput (cI σ t 8 k) (t + 9) k 0) := wf_put hw5 (by omega)
        exact hw6
      · have r_14 := hw.len (kT7 ht)
        have r_25 := hw.ra2 (kT7 ht) k
        have g_29 := hw.2.2.1 t 7
        exact ih hw (by omega) (by omega)
theorem w_goOn {σ : cS} {t : Nat} (hw : wf σ) (ht : kd t = 4) : wf (c_goOn σ t) := by
  unfold c_goOn
  have g_3 := hw.2.2.1 t 8
  exact w_goOnL hw ht (200003002) (by omega) (by omega)
def c_takeItem (σ : cS) (t : Nat) : Int × cS := (if (rat (σ.1 (t + 9)) (σ.2.1 t 8)) < (rat (σ.1 (t + 5)) (σ.2.1 t 8)) then (if (rat ((cput σ (t + 9) (σ.2.1 t 8) ((rat (σ.1 (t + 9)) (σ.2.1 t 8)) + 1)).1 (t + 1)) (σ.2.1 t 8)) = 0 then (0, (c_goOn (cI (cI (cput σ (t + 9) (σ.2.1 t 8) ((rat (σ.1 (t + 9)) (σ.2.1 t 8)) + 1)) t 7 (σ.2.1 t 8)) t 8 ((σ.2.1 t 8) + 1)) t)) else (0, (cput σ (t + 9) (σ.2.1 t 8) ((rat (σ.1 (t + 9)) (σ.2.1 t 8)) + 1)))) else (6, σ))
theorem t_takeItem {l : Launch} {G : jG} {d : Nat} {σ : cS} {t : Nat} (hw : wf σ) (hd : 2 ≤ d) (ht : kd t = 4) : CJ jCls jown l G (Yx mX4_takeItem) d 0 0 0 [some (.ref t)] [] σ (det (some (vi (c_takeItem σ t).1)) (c_takeItem σ t).2) := by
  refine C_aload_n dX4_takeItem_0 rfl ?_
  refine C_get dX4_takeItem_1 f_X4_36 (fun h hc => ⟨_, hc.2.2.2.1 _ ht, rfl⟩) ?_
  refine C_aload_n dX4_takeItem_4 rfl ?_
  refine C_get dX4_takeItem_5 f_X4_42 (fun h hc => ⟨_, hc.2.2.2.1 _ ht, rfl⟩) ?_
  have g_5 := hw.2.2.1 t 8
  refine D_callV (As := [vi _]) (d' := 0) (row_at hw (kT9 ht) (by omega)) dX4_takeItem_8 v_X4_60 (fun h hc => ⟨_, (hc.1 _ (kT9 ht)).1⟩) rfl (Nat.le_of_ble_eq_true rfl) (by omega) (Nat.le_of_ble_eq_true rfl) ?_
  simp only [Option.toList, List.nil_append, List.cons_append]
  have r_8 := hw.ra2 (kT9 ht) (σ.2.1 t 8)
  refine C_aload_n dX4_takeItem_11 rfl ?_
  refine C_get dX4_takeItem_12 f_X4_23 (fun h hc => ⟨_, hc.2.2.2.1 _ ht, rfl⟩) ?_
  refine C_aload_n dX4_takeItem_15 rfl ?_
  refine C_get dX4_takeItem_16 f_X4_42 (fun h hc => ⟨_, hc.2.2.2.1 _ ht, rfl⟩) ?_
  have g_16 := hw.2.2.1 t 8
  refine D_callV (As := [vi _]) (d' := 0) (row_at hw (kT5 ht) (by omega)) dX4_takeItem_19 v_X4_60 (fun h hc => ⟨_, (hc.1 _ (kT5 ht)).1⟩) rfl (Nat.le_of_ble_eq_true rfl) (by omega) (Nat.le_of_ble_eq_true rfl) ?_
  simp only [Option.toList, List.nil_append, List.cons_append]
  have r_19 := hw.ra2 (kT5 ht) (σ.2.1 t 8)
  refine C_icmp_lt (tgt := 28) dX4_takeItem_22 (by decide) (by omega) (by omega) (fun c_22 => ?_) (fun c_22 => ?_)
  · refine C_aload_n dX4_takeItem_28 rfl ?_
    refine C_get dX4_takeItem_29 f_X4_36 (fun h hc => ⟨_, hc.2.2.2.1 _ ht, rfl⟩) ?_
    refine C_aload_n dX4_takeItem_32 rfl ?_
    refine C_get dX4_takeItem_33 f_X4_42 (fun h hc => ⟨_, hc.2.2.2.1 _ ht, rfl⟩) ?_
    have g_33 := hw.2.2.1 t 8
    refine C_aload_n dX4_takeItem_36 rfl ?_
    refine C_get dX4_takeItem_37 f_X4_36 (fun h hc => ⟨_, hc.2.2.2.1 _ ht, rfl⟩) ?_
    refine C_aload_n dX4_takeItem_40 rfl ?_
    refine C_get dX4_takeItem_41 f_X4_42 (fun h hc => ⟨_, hc.2.2.2.1 _ ht, rfl⟩) ?_
    have g_41 := hw.2.2.1 t 8
    refine D_callV (As := [vi _]) (d' := 0) (row_at hw (kT9 ht) (by omega)) dX4_takeItem_44 v_X4_60 (fun h hc => ⟨_, (hc.1 _ (kT9 ht)).1⟩) rfl (Nat.le_of_ble_eq_true rfl) (by omega) (Nat.le_of_ble_eq_true rfl) ?_
    simp only [Option.toList, List.nil_append, List.cons_append]
    have r_44 := hw.ra2 (kT9 ht) (σ.2.1 t 8)
    refine C_iconst dX4_takeItem_47 ?_
    refine C_iadd dX4_takeItem_48 ?_
    refine D_callV (As := [vi _, vi _]) (d' := 0) (row_put hw (kT9 ht) (by omega) (by omega)) dX4_takeItem_49 v_X4_82 (fun h hc => ⟨_, (hc.1 _ (kT9 ht)).1⟩) rfl (Nat.le_of_ble_eq_true rfl) (by omega) (Nat.le_of_ble_eq_true rfl) ?_
    simp only [Option.toList, List.nil_append, List.cons_append]
    have hw2 : wf (cput σ (t + 9) (σ.2.1 t 8) ((rat (σ.1 (t + 9)) (σ.2.1 t 8)) + 1)) := wf_put hw (by omega)
    refine C_aload_n dX4_takeItem_52 rfl ?_
    refine C_get dX4_takeItem_53 f_X4_14 (fun h hc => ⟨_, hc.2.2.2.1 _ ht, rfl⟩) ?_
    refine C_aload_n dX4_takeItem_56 rfl ?_
    refine C_get (v := vi (σ.2.1 t 8)) dX4_takeItem_57 f_X4_42 (fun h hc => ⟨_, hc.2.2.2.1 _ ht, congrArg (fun z => some (vi z)) (show ((cput σ (t + 9) (σ.2.1 t 8) ((rat (σ.1 (t + 9)) (σ.2.1 t 8)) + 1)).2.1 t 8) = (σ.2.1 t 8) by simp [cI, upI, cadd, cput, cemp])⟩) ?_
    have g_57 := hw.2.2.1 t 8
    refine D_callV (As := [vi _]) (d' := 0) (row_at hw2 (kT1 ht) (by omega)) dX4_takeItem_60 v_X4_60 (fun h hc => ⟨_, (hc.1 _ (kT1 ht)).1⟩) rfl (Nat.le_of_ble_eq_true rfl) (by omega) (Nat.le_of_ble_eq_true rfl) ?_
    simp only [Option.toList, List.nil_append, List.cons_append]
    have r_60 := hw2.ra2 (kT1 ht) (σ.2.1 t 8)
    refine C_if_ne (tgt := 88) dX4_takeItem_63 (by decide) (by omega) (fun c_63 => ?_) (fun c_63 => ?_)
    · refine C_iconst dX4_takeItem_88 ?_
      refine C_iret dX4_takeItem_89 rfl ?_
      unfold det; rw [c_takeItem, if_pos (by omega), if_neg (by omega)]; exact ⟨rfl, rfl⟩
    · refine C_aload_n dX4_takeItem_66 rfl ?_
      refine C_aload_n dX4_takeItem_67 rfl ?_
      refine C_get (v := vi (σ.2.1 t 8)) dX4_takeItem_68 f_X4_42 (fun h hc => ⟨_, hc.2.2.2.1 _ ht, congrArg (fun z => some (vi z)) (show ((cput σ (t + 9) (σ.2.1 t 8) ((rat (σ.1 (t + 9)) (σ.2.1 t 8)) + 1)).2.1 t 8) = (σ.2.1 t 8) by simp [cI, upI, cadd, cput, cemp])⟩) ?_
      have g_68 := hw.2.2.1 t 8
      refine C_put (σ' := (cI (cput σ (t + 9) (σ.2.1 t 8) ((rat (σ.1 (t + 9)) (σ.2.1 t 8)) + 1)) t 7 (σ.2.1 t 8))) dX4_takeItem_71 f_X4_39 jfit_i (ownT ht) (fun h hc => hc.putT7 ht) ?_
      have hw4 : wf (cI (cput σ (t + 9) (σ.2.1 t 8) ((rat (σ.1 (t + 9)) (σ.2.1 t 8)) + 1)) t 7 (σ.2.1 t 8)) := wf_I hw2 (by omega)
      refine C_aload_n dX4_takeItem_74 rfl ?_
      refine C_aload_n dX4_takeItem_75 rfl ?_
      refine C_get (v := vi (σ.2.1 t 8)) dX4_takeItem_76 f_X4_42 (fun h hc => ⟨_, hc.2.2.2.1 _ ht, congrArg (fun z => some (vi z)) (show ((cI (cput σ (t + 9) (σ.2.1 t 8) ((rat (σ.1 (t + 9)) (σ.2.1 t 8)) + 1)) t 7 (σ.2.1 t 8)).2.1 t 8) = (σ.2.1 t 8) by simp [cI, upI, cadd, cput, cemp])⟩) ?_
      have g_76 := hw.2.2.1 t 8
      refine C_iconst dX4_takeItem_79 ?_
      refine C_iadd dX4_takeItem_80 ?_
      refine C_put (σ' := (cI (cI (cput σ (t + 9) (σ.2.1 t 8) ((rat (σ.1 (t + 9)) (σ.2.1 t 8)) + 1)) t 7 (σ.2.1 t 8)) t 8 ((σ.2.1 t 8) + 1))) dX4_takeItem_81 f_X4_42 jfit_i (ownT ht) (fun h hc => hc.putT8 ht) ?_
      have hw5 : wf (cI (cI (cput σ (t + 9) (σ.2.1 t 8) ((rat (σ.1 (t + 9)) (σ.2.1 t 8)) + 1)) t 7 (σ.2.1 t 8)) t 8 ((σ.2.1 t 8) + 1)) := wf_I hw4 (by omega)
      refine C_aload_n dX4_takeItem_84 rfl ?_
      refine D_callV (As := []) (d' := 1) (t_goOn hw5 (Nat.le_refl _) ht) dX4_takeItem_85 v_X4_79 (fun h hc => ⟨_, hc.2.2.2.1 _ ht⟩) rfl (Nat.le_of_ble_eq_true rfl) (by omega) (Nat.le_of_ble_eq_true rfl) ?_
      simp only [Option.toList, List.nil_append, List.cons_append]
      have hw6 : wf (c_goOn (cI (cI (cput σ (t + 9) (σ.2.1 t 8) ((rat (σ.1 (t + 9)) (σ.2.1 t 8)) + 1)) t 7 (σ.2.1 t 8)) t 8 ((σ.2.1 t 8) + 1)) t) := w_goOn hw5 ht
      refine C_iconst dX4_takeItem_88 ?_
      refine C_iret dX4_takeItem_89 rfl ?_
      unfold det; rw [c_takeItem, if_pos (by omega), if_pos (by omega)]; exact ⟨rfl, rfl⟩
  · refine C_bipush dX4_takeItem_25 (by decide) ?_
    refine C_iret dX4_takeItem_27 rfl ?_
    unfold det; rw [c_takeItem, if_neg (by omega)]; exact ⟨rfl, rfl⟩
theorem r_takeItem {σ : cS} {t : Nat} (hw : wf σ) (ht : kd t = 4) : 0 ≤ (c_takeItem σ t).1 ∧ (c_takeItem σ t).1 < 7 := by
  unfold c_takeItem
  split
  · split
    · have g_5 := hw.2.2.1 t 8
      have r_8 := hw.ra2 (kT9 ht) (σ.2.1 t 8)
      have g_16 := hw.2.2.1 t 8
      have r_19 := hw.ra2 (kT5 ht) (σ.2.1 t 8)
      have g_33 := hw.2.2.1 t 8
      have g_41 := hw.2.2.1 t 8
      have r_44 := hw.ra2 (kT9 ht) (σ.2.1 t 8)
      have hw2 : wf (cput σ (t + 9) (σ.2.1 t 8) ((rat (σ.1 (t + 9)) (σ.2.1 t 8)) + 1)) := wf_put hw (by omega)
      have g_57 := hw.2.2.1 t 8
      have r_60 := hw2.ra2 (kT1 ht) (σ.2.1 t 8)
      have g_68 := hw.2.2.1 t 8
      have hw4 : wf (cI (cput σ (t + 9) (σ.2.1 t 8) ((rat (σ.1 (t + 9)) (σ.2.1 t 8)) + 1)) t 7 (σ.2.1 t 8)) := wf_I hw2 (by omega)
      have g_76 := hw.2.2.1 t 8
      have hw5 : wf (cI (cI (cput σ (t + 9) (σ.2.1 t 8) ((rat (σ.1 (t + 9)) (σ.2.1 t 8)) + 1)) t 7 (σ.2.1 t 8)) t 8 ((σ.2.1 t 8) + 1)) := wf_I hw4 (by omega)
      have hw6 : wf (c_goOn (cI (cI (cput σ (t + 9) (σ.2.1 t 8) ((rat (σ.1 (t + 9)) (σ.2.1 t 8)) + 1)) t 7 (σ.2.1 t 8)) t 8 ((σ.2.1 t 8) + 1)) t) := w_goOn hw5 ht
      omega
    · have g_5 := hw.2.2.1 t 8
      have r_8 := hw.ra2 (kT9 ht) (σ.2.1 t 8)
      have g_16 := hw.2.2.1 t 8
      have r_19 := hw.ra2 (kT5 ht) (σ.2.1 t 8)
      have g_33 := hw.2.2.1 t 8
      have g_41 := hw.2.2.1 t 8
      have r_44 := hw.ra2 (kT9 ht) (σ.2.1 t 8)
      have hw2 : wf (cput σ (t + 9) (σ.2.1 t 8) ((rat (σ.1 (t + 9)) (σ.2.1 t 8)) + 1)) := wf_put hw (by omega)
      have g_57 := hw.2.2.1 t 8
      have r_60 := hw2.ra2 (kT1 ht) (σ.2.1 t 8)
      omega
  · have g_5 := hw.2.2.1 t 8
    have r_8 := hw.ra2 (kT9 ht) (σ.2.1 t 8)
    have g_16 := hw.2.2.1 t 8
    have r_19 := hw.ra2 (kT5 ht) (σ.2.1 t 8)
    omega
theorem w_takeItem {σ : cS} {t : Nat} (hw : wf σ) (ht : kd t = 4) : wf (c_takeItem σ t).2 := by
  unfold c_takeItem
  split
  · split
    · have g_5 := hw.2.2.1 t 8
      have r_8 := hw.ra2 (kT9 ht) (σ.2.1 t 8)
      have g_16 := hw.2.2.1 t 8
      have r_19 := hw.ra2 (kT5 ht) (σ.2.1 t 8)
      have g_33 := hw.2.2.1 t 8
      have g_41 := hw.2.2.1 t 8
      have r_44 := hw.ra2 (kT9 ht) (σ.2.1 t 8)
      have hw2 : wf (cput σ (t + 9) (σ.2.1 t 8) ((rat (σ.1 (t + 9)) (σ.2.1 t 8)) + 1)) := wf_put hw (by omega)
      have g_57 := hw.2.2.1 t 8
      have r_60 := hw2.ra2 (kT1 ht) (σ.2.1 t 8)
      have g_68 := hw.2.2.1 t 8
      have hw4 : wf (cI (cput σ (t + 9) (σ.2.1 t 8) ((rat (σ.1 (t + 9)) (σ.2.1 t 8)) + 1)) t 7 (σ.2.1 t 8)) := wf_I hw2 (by omega)
      have g_76 := hw.2.2.1 t 8
      have hw5 : wf (cI (cI (cput σ (t + 9) (σ.2.1 t 8) ((rat (σ.1 (t + 9)) (σ.2.1 t 8)) + 1)) t 7 (σ.2.1 t 8)) t 8 ((σ.2.1 t 8) + 1)) := wf_I hw4 (by omega)
      have hw6 : wf (c_goOn (cI (cI (cput σ (t + 9) (σ.2.1 t 8) ((rat (σ.1 (t + 9)) (σ.2.1 t 8)) + 1)) t 7 (σ.2.1 t 8)) t 8 ((σ.2.1 t 8) + 1)) t) := w_goOn hw5 ht
      exact hw6
    · have g_5 := hw.2.2.1 t 8
      have r_8 := hw.ra2 (kT9 ht) (σ.2.1 t 8)
      have g_16 := hw.2.2.1 t 8
      have r_19 := hw.ra2 (kT5 ht) (σ.2.1 t 8)
      have g_33 := hw.2.2.1 t 8
      have g_41 := hw.2.2.1 t 8
      have r_44 := hw.ra2 (kT9 ht) (σ.2.1 t 8)
      have hw2 : wf (cput σ (t + 9) (σ.2.1 t 8) ((rat (σ.1 (t + 9)) (σ.2.1 t 8)) + 1)) := wf_put hw (by omega)
      have g_57 := hw.2.2.1 t 8
      have r_60 := hw2.ra2 (kT1 ht) (σ.2.1 t 8)
      exact hw2
  · have g_5 := hw.2.2.1 t 8
    have r_8 := hw.ra2 (kT9 ht) (σ.2.1 t 8)
    have g_16 := hw.2.2.1 t 8
    have r_19 := hw.ra2 (kT5 ht) (σ.2.1 t 8)
    exact hw
def c_tmatchL (t : Nat) (g : Int) : Nat → Int → cS → Int × cS
  | 0, _, σ => (0, σ)
  | fu + 1, k, σ => (if 24 < k then (4, σ) else (if (c_standAtItem σ t).1 = true then (if (c_firstTag (c_standAtItem σ t).2 t) = g then ((c_takeItem (c_standAtItem σ t).2 t).1, (c_takeItem (c_standAtItem σ t).2 t).2) else (if (c_isMissing (c_standAtItem σ t).2 t) = true then (5, (c_standAtItem σ t).2) else (c_tmatchL t g fu (k + 1) (c_goOn (c_standAtItem σ t).2 t)))) else (4, (c_standAtItem σ t).2)))
def c_tmatch (σ : cS) (t : Nat) (g : Int) : Int × cS := (c_tmatchL t g (26) 0 σ)
theorem t_tmatchL {l : Launch} {G : jG} {d : Nat} {σ : cS} {t : Nat} {g : Int} {k : Int} (hw : wf σ) (hd : 3 ≤ d) (ht : kd t = 4) (hg : rg g) (fu : Nat) (hk : 0 ≤ k ∧ k ≤ 25) (hm : 25 - k < (fu : Int)) : CJ jCls jown l G (Yx mX4_match) d 0 0 2 [some (.ref t), some (vi g), some (vi k)] [] σ (det (some (vi (c_tmatchL t g fu k σ).1)) (c_tmatchL t g fu k σ).2) := by
  induction fu generalizing σ k with
  | zero => exact absurd hm (by omega)
  | succ fu ih =>
    refine C_iload_n dX4_match_2 rfl ?_
    refine C_bipush dX4_match_3 (by decide) ?_
    refine C_icmp_gt (tgt := 49) dX4_match_5 (by decide) (by omega) (by omega) (fun c_5 => ?_) (fun c_5 => ?_)
    · refine C_iconst dX4_match_49 ?_
      refine C_iret dX4_match_50 rfl ?_
      unfold det; rw [c_tmatchL, if_pos (by omega)]; exact ⟨rfl, rfl⟩
    · refine C_aload_n dX4_match_8 rfl ?_
      refine D_callV (As := []) (d' := 1) (t_standAtItem hw (Nat.le_refl _) ht) dX4_match_9 v_X4_67 (fun h hc => ⟨_, hc.2.2.2.1 _ ht⟩) rfl (Nat.le_of_ble_eq_true rfl) (by omega) (Nat.le_of_ble_eq_true rfl) ?_
      simp only [Option.toList, List.nil_append, List.cons_append]
      have hw2 : wf (c_standAtItem σ t).2 := w_standAtItem hw ht
      refine C_if_neZ (tgt := 17) dX4_match_12 (by decide) (fun c_12 => ?_) (fun c_12 => ?_)
      · refine C_aload_n dX4_match_17 rfl ?_
        refine D_callV (As := []) (d' := 1) (t_firstTag hw2 (Nat.le_refl _) ht) dX4_match_18 v_X4_70 (fun h hc => ⟨_, hc.2.2.2.1 _ ht⟩) rfl (Nat.le_of_ble_eq_true rfl) (by omega) (Nat.le_of_ble_eq_true rfl) ?_
        simp only [Option.toList, List.nil_append, List.cons_append]
        have r_18 := r_firstTag (t := t) hw2 ht
        refine C_iload_n dX4_match_21 rfl ?_
        refine C_icmp_ne (tgt := 30) dX4_match_22 (by decide) (by omega) (by omega) (fun c_22 => ?_) (fun c_22 => ?_)
        · refine C_aload_n dX4_match_30 rfl ?_
          refine D_callV (As := []) (d' := 1) (t_isMissing hw2 (Nat.le_refl _) ht) dX4_match_31 v_X4_76 (fun h hc => ⟨_, hc.2.2.2.1 _ ht⟩) rfl (Nat.le_of_ble_eq_true rfl) (by omega) (Nat.le_of_ble_eq_true rfl) ?_
          simp only [Option.toList, List.nil_append, List.cons_append]
          refine C_if_eqZ (tgt := 39) dX4_match_34 (by decide) (fun c_34 => ?_) (fun c_34 => ?_)
          · refine C_aload_n dX4_match_39 rfl ?_
            refine D_callV (As := []) (d' := 1) (t_goOn hw2 (Nat.le_refl _) ht) dX4_match_40 v_X4_79 (fun h hc => ⟨_, hc.2.2.2.1 _ ht⟩) rfl (Nat.le_of_ble_eq_true rfl) (by omega) (Nat.le_of_ble_eq_true rfl) ?_
            simp only [Option.toList, List.nil_append, List.cons_append]
            have hw6 : wf (c_goOn (c_standAtItem σ t).2 t) := w_goOn hw2 ht
            refine C_iinc dX4_match_43 rfl (by decide) rfl ?_
            simp only [List.set_cons_zero, List.set_cons_succ]
            refine C_goto (tgt := 2) dX4_match_46 (by decide) ?_
            rw [c_tmatchL, if_neg (by omega), if_pos c_12, if_neg (by omega), if_neg (by rw [c_34]; decide)]
            refine CJ.mono (ls' := [some (.ref t), some (vi g), some (vi (k + 1))]) (lsub_ok (by repeat (first | exact trivial | refine ⟨rfl, ?_⟩))) (fun _ _ q => q) ?_
            exact ih hw6 (by omega) (by omega)
          · refine C_iconst dX4_match_37 ?_
            refine C_iret dX4_match_38 rfl ?_
            unfold det; rw [c_tmatchL, if_neg (by omega), if_pos c_12, if_neg (by omega), if_pos c_34]; exact ⟨rfl, rfl⟩
        · refine C_aload_n dX4_match_25 rfl ?_
          refine D_callV (As := []) (d' := 2) (t_takeItem hw2 (Nat.le_refl _) ht) dX4_match_26 v_X4_73 (fun h hc => ⟨_, hc.2.2.2.1 _ ht⟩) rfl (Nat.le_of_ble_eq_true rfl) (by omega) (Nat.le_of_ble_eq_true rfl) ?_
          simp only [Option.toList, List.nil_append, List.cons_append]
          have hw7 : wf (c_takeItem (c_standAtItem σ t).2 t).2 := w_takeItem hw2 ht
          have r_26 := r_takeItem (t := t) hw2 ht
          refine C_iret dX4_match_29 rfl ?_
          unfold det; rw [c_tmatchL, if_neg (by omega), if_pos c_12, if_pos (by omega)]; exact ⟨rfl, rfl⟩
      · refine C_iconst dX4_match_15 ?_
        refine C_iret dX4_match_16 rfl ?_
        unfold det; rw [c_tmatchL, if_neg (by omega), if_neg (by rw [c_12]; decide)]; exact ⟨rfl, rfl⟩
theorem t_tmatch {l : Launch} {G : jG} {d : Nat} {σ : cS} {t : Nat} {g : Int} (hw : wf σ) (hd : 3 ≤ d) (ht : kd t = 4) (hg : rg g) : CJ jCls jown l G (Yx mX4_match) d 0 0 0 [some (.ref t), some (vi g), none] [] σ (det (some (vi (c_tmatch σ t g).1)) (c_tmatch σ t g).2) := by
  refine C_iconst dX4_match_0 ?_
  refine C_istore_n dX4_match_1 (by decide) rfl ?_
  simp only [List.set_cons_zero, List.set_cons_succ, jfin0, jfin1, jfin2, jfin3]
  rw [c_tmatch]
  refine CJ.mono (ls' := [some (.ref t), some (vi g), some (vi 0)]) (lsub_ok (by repeat (first | exact trivial | refine ⟨rfl, ?_⟩))) (fun _ _ q => q) ?_
  exact t_tmatchL hw hd ht hg (26) (by omega) (by omega)
theorem r_tmatchL {σ : cS} {t : Nat} {g : Int} {k : Int} (hw : wf σ) (ht : kd t = 4) (hg : rg g) (fu : Nat) (hk : 0 ≤ k ∧ k ≤ 25) : 0 ≤ (c_tmatchL t g fu k σ).1 ∧ (c_tmatchL t g fu k σ).1 < 7 := by
  induction fu generalizing σ k with
  | zero => unfold c_tmatchL; omega
  | succ fu ih =>
    unfold c_tmatchL
    split
    · omega
    · split
      · split
        · have hw2 : wf (c_standAtItem σ t).2 := w_standAtItem hw ht
          have r_18 := r_firstTag (t := t) hw2 ht
          have hw7 : wf (c_takeItem (c_standAtItem σ t).2 t).2 := w_takeItem hw2 ht
          have r_26 := r_takeItem (t := t) hw2 ht
          omega
        · split
          · have hw2 : wf (c_standAtItem σ t).2 := w_standAtItem hw ht
            have r_18 := r_firstTag (t := t) hw2 ht
            omega
          · have hw2 : wf (c_standAtItem σ t).2 := w_standAtItem hw ht
            have r_18 := r_firstTag (t := t) hw2 ht
            have hw6 : wf (c_goOn (c_standAtItem σ t).2 t) := w_goOn hw2 ht
            exact ih hw6 (by omega)
      · have hw2 : wf (c_standAtItem σ t).2 := w_standAtItem hw ht
        omega
theorem r_tmatch {σ : cS} {t : Nat} {g : Int} (hw : wf σ) (ht : kd t = 4) (hg : rg g) : 0 ≤ (c_tmatch σ t g).1 ∧ (c_tmatch σ t g).1 < 7 := by
  unfold c_tmatch
  exact r_tmatchL hw ht hg (26) (by omega)
theorem w_tmatchL {σ : cS} {t : Nat} {g : Int} {k : Int} (hw : wf σ) (ht : kd t = 4) (hg : rg g) (fu : Nat) (hk : 0 ≤ k ∧ k ≤ 25) : wf (c_tmatchL t g fu k σ).2 := by
  induction fu generalizing σ k with
  | zero => exact hw
  | succ fu ih =>
    unfold c_tmatchL
    split
    · exact hw
    · split
      · split
        · have hw2 : wf (c_standAtItem σ t).2 := w_standAtItem hw ht
          have r_18 := r_firstTag (t := t) hw2 ht
          have hw7 : wf (c_takeItem (c_standAtItem σ t).2 t).2 := w_takeItem hw2 ht
          have r_26 := r_takeItem (t := t) hw2 ht
          exact hw7
        · split
          · have hw2 : wf (c_standAtItem σ t).2 := w_standAtItem hw ht
            have r_18 := r_firstTag (t := t) hw2 ht
            exact hw2
          · have hw2 : wf (c_standAtItem σ t).2 := w_standAtItem hw ht
            have r_18 := r_firstTag (t := t) hw2 ht
            have hw6 : wf (c_goOn (c_standAtItem σ t).2 t) := w_goOn hw2 ht
            exact ih hw6 (by omega)
      · have hw2 : wf (c_standAtItem σ t).2 := w_standAtItem hw ht
        exact hw2
theorem w_tmatch {σ : cS} {t : Nat} {g : Int} (hw : wf σ) (ht : kd t = 4) (hg : rg g) : wf (c_tmatch σ t g).2 := by
  unfold c_tmatch
  exact w_tmatchL hw ht hg (26) (by omega)
def c_endMatchL (t : Nat) : Nat → Int → cS → Int × cS
  | 0, _, σ => (0, σ)
  | fu + 1, k, σ => (if 24 < k then (0, σ) else (if (c_standAtItem σ t).1 = true then (if (c_isMissing (c_standAtItem σ t).2 t) = true then (5, (c_standAtItem σ t).2) else (c_endMatchL t fu (k + 1) (c_goOn (c_standAtItem σ t).2 t))) else (0, (c_standAtItem σ t).2)))
def c_endMatch (σ : cS) (t : Nat) : Int × cS := (c_endMatchL t (26) 0 σ)
theorem t_endMatchL {l : Launch} {G : jG} {d : Nat} {σ : cS} {t : Nat} {k : Int} (hw : wf σ) (hd : 2 ≤ d) (ht : kd t = 4) (fu : Nat) (hk : 0 ≤ k ∧ k ≤ 25) (hm : 25 - k < (fu : Int)) : CJ jCls jown l G (Yx mX4_endMatch) d 0 0 2 [some (.ref t), some (vi k)] [] σ (det (some (vi (c_endMatchL t fu k σ).1)) (c_endMatchL t fu k σ).2) := by
  induction fu generalizing σ k with
  | zero => exact absurd hm (by omega)
  | succ fu ih =>
    refine C_iload_n dX4_endMatch_2 rfl ?_
    refine C_bipush dX4_endMatch_3 (by decide) ?_
    refine C_icmp_gt (tgt := 36) dX4_endMatch_5 (by decide) (by omega) (by omega) (fun c_5 => ?_) (fun c_5 => ?_)
    · refine C_iconst dX4_endMatch_36 ?_
      refine C_iret dX4_endMatch_37 rfl ?_
      unfold det; rw [c_endMatchL, if_pos (by omega)]; exact ⟨rfl, rfl⟩
    · refine C_aload_n dX4_endMatch_8 rfl ?_
      refine D_callV (As := []) (d' := 1) (t_standAtItem hw (Nat.le_refl _) ht) dX4_endMatch_9 v_X4_67 (fun h hc => ⟨_, hc.2.2.2.1 _ ht⟩) rfl (Nat.le_of_ble_eq_true rfl) (by omega) (Nat.le_of_ble_eq_true rfl) ?_
      simp only [Option.toList, List.nil_append, List.cons_append]
      have hw2 : wf (c_standAtItem σ t).2 := w_standAtItem hw ht
      refine C_if_neZ (tgt := 17) dX4_endMatch_12 (by decide) (fun c_12 => ?_) (fun c_12 => ?_)
      · refine C_aload_n dX4_endMatch_17 rfl ?_
        refine D_callV (As := []) (d' := 1) (t_isMissing hw2 (Nat.le_refl _) ht) dX4_endMatch_18 v_X4_76 (fun h hc => ⟨_, hc.2.2.2.1 _ ht⟩) rfl (Nat.le_of_ble_eq_true rfl) (by omega) (Nat.le_of_ble_eq_true rfl) ?_
        simp only [Option.toList, List.nil_append, List.cons_append]
        refine C_if_eqZ (tgt := 26) dX4_endMatch_21 (by decide) (fun c_21 => ?_) (fun c_21 => ?_)
        · refine C_aload_n dX4_endMatch_26 rfl ?_
          refine D_callV (As := []) (d' := 1) (t_goOn hw2 (Nat.le_refl _) ht) dX4_endMatch_27 v_X4_79 (fun h hc => ⟨_, hc.2.2.2.1 _ ht⟩) rfl (Nat.le_of_ble_eq_true rfl) (by omega) (Nat.le_of_ble_eq_true rfl) ?_
          simp only [Option.toList, List.nil_append, List.cons_append]
          have hw5 : wf (c_goOn (c_standAtItem σ t).2 t) := w_goOn hw2 ht
          refine C_iinc dX4_endMatch_30 rfl (by decide) rfl ?_
          simp only [List.set_cons_zero, List.set_cons_succ]
          refine C_goto (tgt := 2) dX4_endMatch_33 (by decide) ?_
          rw [c_endMatchL, if_neg (by omega), if_pos c_12, if_neg (by rw [c_21]; decide)]
          refine CJ.mono (ls' := [some (.ref t), some (vi (k + 1))]) (lsub_ok (by repeat (first | exact trivial | refine ⟨rfl, ?_⟩))) (fun _ _ q => q) ?_
          exact ih hw5 (by omega) (by omega)
        · refine C_iconst dX4_endMatch_24 ?_
          refine C_iret dX4_endMatch_25 rfl ?_
          unfold det; rw [c_endMatchL, if_neg (by omega), if_pos c_12, if_pos c_21]; exact ⟨rfl, rfl⟩
      · refine C_iconst dX4_endMatch_15 ?_
        refine C_iret dX4_endMatch_16 rfl ?_
        unfold det; rw [c_endMatchL, if_neg (by omega), if_neg (by rw [c_12]; decide)]; exact ⟨rfl, rfl⟩
theorem t_endMatch {l : Launch} {G : jG} {d : Nat} {σ : cS} {t : Nat} (hw : wf σ) (hd : 2 ≤ d) (ht : kd t = 4) : CJ jCls jown l G (Yx mX4_endMatch) d 0 0 0 [some (.ref t), none] [] σ (det (some (vi (c_endMatch σ t).1)) (c_endMatch σ t).2) := by
  refine C_iconst dX4_endMatch_0 ?_
  refine C_istore_n dX4_endMatch_1 (by decide) rfl ?_
  simp only [List.set_cons_zero, List.set_cons_succ, jfin0, jfin1, jfin2, jfin3]
  rw [c_endMatch]
  refine CJ.mono (ls' := [some (.ref t), some (vi 0)]) (lsub_ok (by repeat (first | exact trivial | refine ⟨rfl, ?_⟩))) (fun _ _ q => q) ?_
  exact t_endMatchL hw hd ht (26) (by omega) (by omega)
theorem r_endMatchL {σ : cS} {t : Nat} {k : Int} (hw : wf σ) (ht : kd t = 4) (fu : Nat) (hk : 0 ≤ k ∧ k ≤ 25) : 0 ≤ (c_endMatchL t fu k σ).1 ∧ (c_endMatchL t fu k σ).1 < 7 := by
  induction fu generalizing σ k with
  | zero => unfold c_endMatchL; omega
  | succ fu ih =>
    unfold c_endMatchL
    split
    · omega
    · split
      · split
        · have hw2 : wf (c_standAtItem σ t).2 := w_standAtItem hw ht
          omega
        · have hw2 : wf (c_standAtItem σ t).2 := w_standAtItem hw ht
          have hw5 : wf (c_goOn (c_standAtItem σ t).2 t) := w_goOn hw2 ht
          exact ih hw5 (by omega)
      · have hw2 : wf (c_standAtItem σ t).2 := w_standAtItem hw ht
        omega
theorem r_endMatch {σ : cS} {t : Nat} (hw : wf σ) (ht : kd t = 4) : 0 ≤ (c_endMatch σ t).1 ∧ (c_endMatch σ t).1 < 7 := by
  unfold c_endMatch
  exact r_endMatchL hw ht (26) (by omega)
theorem w_endMatchL {σ : cS} {t : Nat} {k : Int} (hw : wf σ) (ht : kd t = 4) (fu : Nat) (hk : 0 ≤ k ∧ k ≤ 25) : wf (c_endMatchL t fu k σ).2 := by
  induction fu generalizing σ k with
  | zero => exact hw
  | succ fu ih =>
    unfold c_endMatchL
    split
    · exact hw
    · split
      · split
        · have hw2 : wf (c_standAtItem σ t).2 := w_standAtItem hw ht
          exact hw2
        · have hw2 : wf (c_standAtItem σ t).2 := w_standAtItem hw ht
          have hw5 : wf (c_goOn (c_standAtItem σ t).2 t) := w_goOn hw2 ht
          exact ih hw5 (by omega)
      · have hw2 : wf (c_standAtItem σ t).2 := w_standAtItem hw ht
        exact hw2
theorem w_endMatch {σ : cS} {t : Nat} (hw : wf σ) (ht : kd t = 4) : wf (c_endMatch σ t).2 := by
  unfold c_endMatch
  exact w_endMatchL hw ht (26) (by omega)
