def lsub : List (Option Value) → List (Option Value) → Prop
  | [], _ => True
  | none :: a, _ :: b => lsub a b
  | some v :: a, x :: b => x = some v ∧ lsub a b
  | _ :: _, [] => False
theorem lsub_ok : ∀ {ls' ls : List (Option Value)}, lsub ls' ls → ∀ (i : Nat) (v : Value), ls'[i]? = some (some v) → ls[i]? = some (some v)
  | [], _, _, i, v, h => by simp at h
  | none :: a, x :: b, hs, i, v, h => by
    cases i with
    | zero => simp at h
    | succ i => simpa using lsub_ok (ls' := a) hs i v (by simpa using h)
  | some u :: a, x :: b, hs, i, v, h => by
    cases i with
    | zero => simp at h ⊢; rw [← h]; exact hs.1
    | succ i => simpa using lsub_ok (ls' := a) hs.2 i v (by simpa using h)
  | none :: _, [], hs, _, _, _ => hs.elim
  | some _ :: _, [], hs, _, _, _ => hs.elim
def c_goOnL (t : Nat) : Nat → Int → Int → cS → cS
  | 0, _, _, σ => σ
  | fu + 1, nx, k, σ => (if (σ.1 (t + 7)).length ≤ k then (cput (cI σ t 8 nx) (t + 9) nx 0) else (if (rat (σ.1 (t + 7)) k) = (σ.2.1 t 7) then (cput (cI σ t 8 k) (t + 9) k 0) else (c_goOnL t fu nx (k + 1) σ)))
def c_goOn (σ : cS) (t : Nat) : cS := (c_goOnL t (200000002) (-1) ((σ.2.1 t 8) + 1) σ)
theorem t_goOnL {l : Launch} {G : jG} {d : Nat} {σ : cS} {t : Nat} {nx k : Int} (hw : wf σ) (hd : 1 ≤ d) (ht : kd t = 4) (fu : Nat) (hnx : nx = -1) (hk : 0 ≤ k ∧ k < 200000000) (hm : 200000000 - k < (fu : Int)) : CJ jCls jown l G (Yx mX4_goOn) d 0 0 9 [some (.ref t), some (vi nx), some (vi k)] [] σ (det none (c_goOnL t fu nx k σ)) := by
  induction fu generalizing σ nx k with
  | zero => exact absurd hm (by omega)
  | succ fu ih =>
    refine C_iload_n dX4_goOn_9 rfl ?_
    refine C_aload_n dX4_goOn_10 rfl ?_
    refine C_get dX4_goOn_11 f_X4_26 (fun h hc => ⟨_, hc.2.2.2.1 _ ht, rfl⟩) ?_
    refine D_callV (As := []) (d' := 0) (row_size hw (kT7 ht)) dX4_goOn_14 v_X4_45 (fun h hc => ⟨_, (hc.1 _ (kT7 ht)).1⟩) rfl (Nat.le_of_ble_eq_true rfl) (by omega) (Nat.le_of_ble_eq_true rfl) ?_
    simp only [Option.toList, List.nil_append, List.cons_append]
    have r_14 := hw.len (kT7 ht)
    refine C_icmp_ge (tgt := 46) dX4_goOn_17 (by decide) (by omega) (by omega) (fun c_17 => ?_) (fun c_17 => ?_)
    · refine C_aload_n dX4_goOn_46 rfl ?_
      refine C_iload_n dX4_goOn_47 rfl ?_
      refine C_put (σ' := (cI σ t 8 nx)) dX4_goOn_48 f_X4_42 jfit_i (ownT ht) (fun h hc => hc.putT8 ht) ?_
      have hw2 : wf (cI σ t 8 nx) := wf_I hw (by omega)
      refine C_aload_n dX4_goOn_51 rfl ?_
      refine C_get dX4_goOn_52 f_X4_36 (fun h hc => ⟨_, hc.2.2.2.1 _ ht, rfl⟩) ?_
      refine C_aload_n dX4_goOn_55 rfl ?_
      refine C_get (v := vi nx) dX4_goOn_56 f_X4_42 (fun h hc => ⟨_, hc.2.2.2.1 _ ht, congrArg (fun z => some (vi z)) (show ((cI σ t 8 nx).2.1 t 8) = nx by simp [cI, upI, cadd, cput, cemp])⟩) ?_
      refine C_iconst dX4_goOn_59 ?_
      refine D_callV (As := [vi _, vi _]) (d' := 0) (row_put hw2 (kT9 ht) (by omega) (by omega)) dX4_goOn_60 v_X4_82 (fun h hc => ⟨_, (hc.1 _ (kT9 ht)).1⟩) rfl (Nat.le_of_ble_eq_true rfl) (by omega) (Nat.le_of_ble_eq_true rfl) ?_
      simp only [Option.toList, List.nil_append, List.cons_append]
      have hw3 : wf (cput (cI σ t 8 nx) (t + 9) nx 0) := wf_put hw2 (by omega)
      refine C_vret dX4_goOn_63 rfl ⟨rfl, ?_⟩
      rw [c_goOnL, if_pos (by omega)]
    · refine C_aload_n dX4_goOn_20 rfl ?_
      refine C_get dX4_goOn_21 f_X4_26 (fun h hc => ⟨_, hc.2.2.2.1 _ ht, rfl⟩) ?_
      refine C_iload_n dX4_goOn_24 rfl ?_
      refine D_callV (As := [vi _]) (d' := 0) (row_at hw (kT7 ht) (by omega)) dX4_goOn_25 v_X4_60 (fun h hc => ⟨_, (hc.1 _ (kT7 ht)).1⟩) rfl (Nat.le_of_ble_eq_true rfl) (by omega) (Nat.le_of_ble_eq_true rfl) ?_
      simp only [Option.toList, List.nil_append, List.cons_append]
      have r_25 := hw.ra (t + 7) k
      refine C_aload_n dX4_goOn_28 rfl ?_
      refine C_get dX4_goOn_29 f_X4_39 (fun h hc => ⟨_, hc.2.2.2.1 _ ht, rfl⟩) ?_
      have g_29 := hw.2.2.1 t 7
      refine C_icmp_ne (tgt := 40) dX4_goOn_32 (by decide) (by omega) (by omega) (fun c_32 => ?_) (fun c_32 => ?_)
      · refine C_iinc dX4_goOn_40 rfl (by decide) rfl ?_
        simp only [List.set_cons_zero, List.set_cons_succ]
        refine C_goto (tgt := 9) dX4_goOn_43 (by decide) ?_
        rw [c_goOnL, if_neg (by omega), if_neg (by omega)]
        refine CJ.mono (ls' := [some (.ref t), some (vi nx), some (vi (k + 1))]) (lsub_ok (by repeat (first | exact trivial | refine ⟨rfl, ?_⟩))) (fun _ _ q => q) ?_
        exact ih hw (by omega) (by omega) (by omega)
      · refine C_iload_n dX4_goOn_35 rfl ?_
        refine C_istore_n dX4_goOn_36 (by decide) rfl ?_
        simp only [List.set_cons_zero, List.set_cons_succ, jfin0, jfin1, jfin2, jfin3]
        refine C_goto (tgt := 46) dX4_goOn_37 (by decide) ?_
        refine C_aload_n dX4_goOn_46 rfl ?_
        refine C_iload_n dX4_goOn_47 rfl ?_
        refine C_put (σ' := (cI σ t 8 k)) dX4_goOn_48 f_X4_42 jfit_i (ownT ht) (fun h hc => hc.putT8 ht) ?_
        have hw5 : wf (cI σ t 8 k) := wf_I hw (by omega)
        refine C_aload_n dX4_goOn_51 rfl ?_
        refine C_get dX4_goOn_52 f_X4_36 (fun h hc => ⟨_, hc.2.2.2.1 _ ht, rfl⟩) ?_
        refine C_aload_n dX4_goOn_55 rfl ?_
        refine C_get (v := vi k) dX4_goOn_56 f_X4_42 (fun h hc => ⟨_, hc.2.2.2.1 _ ht, congrArg (fun z => some (vi z)) (show ((cI σ t 8 k).2.1 t 8) = k by simp [cI, upI, cadd, cput, cemp])⟩) ?_
        refine C_iconst dX4_goOn_59 ?_
        refine D_callV (As := [vi _, vi _]) (d' := 0) (row_put hw5 (kT9 ht) (by omega) (by omega)) dX4_goOn_60 v_X4_82 (fun h hc => ⟨_, (hc.1 _ (kT9 ht)).1⟩) rfl (Nat.le_of_ble_eq_true rfl) (by omega) (Nat.le_of_ble_eq_true rfl) ?_
        simp only [Option.toList, List.nil_append, List.cons_append]
        have hw6 : wf (cput (cI σ t 8 k) (t + 9) k 0) := wf_put hw5 (by omega)
        refine C_vret dX4_goOn_63 rfl ⟨rfl, ?_⟩
        rw [c_goOnL, if_neg (by omega), if_pos (by omega)]
theorem t_goOn {l : Launch} {G : jG} {d : Nat} {σ : cS} {t : Nat} (hw : wf σ) (hd : 1 ≤ d) (ht : kd t = 4) : CJ jCls jown l G (Yx mX4_goOn) d 0 0 0 [some (.ref t), none, none] [] σ (det none (c_goOn σ t)) := by
  refine C_iconst dX4_goOn_0 ?_
  refine C_istore_n dX4_goOn_1 (by decide) rfl ?_
  simp only [List.set_cons_zero, List.set_cons_succ, jfin0, jfin1, jfin2, jfin3]
  refine C_aload_n dX4_goOn_2 rfl ?_
  refine C_get dX4_goOn_3 f_X4_42 (fun h hc => ⟨_, hc.2.2.2.1 _ ht, rfl⟩) ?_
  have g_3 := hw.2.2.1 t 8
  refine C_iconst dX4_goOn_6 ?_
  refine C_iadd dX4_goOn_7 ?_
  refine C_istore_n dX4_goOn_8 (by decide) rfl ?_
  simp only [List.set_cons_zero, List.set_cons_succ, jfin0, jfin1, jfin2, jfin3]
  rw [c_goOn]
  refine CJ.mono (ls' := [some (.ref t), some (vi (-1)), some (vi ((σ.2.1 t 8) + 1))]) (lsub_ok (by repeat (first | exact trivial | refine ⟨rfl, ?_⟩))) (fun _ _ q => q) ?_
  exact t_goOnL hw hd ht (200000002) (by omega) (by omega) (by omega)
theorem w_goOnL {σ : cS} {t : Nat} {nx k : Int} (hw : wf σ) (ht : kd t = 4) (fu : Nat) (hnx : nx = -1) (hk : 0 ≤ k ∧ k < 200000000) : wf (c_goOnL t fu nx k σ) := by
  induction fu generalizing σ nx k with
  | zero => exact hw
  | succ fu ih =>
    unfold c_goOnL
    split
    · have r_14 := hw.len (kT7 ht)
      have hw2 : wf (cI σ t 8 nx) := wf_I hw (by omega)
      have hw3 : wf (cput (cI σ t 8 nx) (t + 9) nx 0) := wf_put hw2 (by omega)
      exact hw3
    · split
      · have r_14 := hw.len (kT7 ht)
        have r_25 := hw.ra (t + 7) k
        have g_29 := hw.2.2.1 t 7
        have hw5 : wf (cI σ t 8 k) := wf_I hw (by omega)
        have hw6 : wf (cput (cI σ t 8 k) (t + 9) k 0) := wf_put hw5 (by omega)
        exact hw6
      · have r_14 := hw.len (kT7 ht)
        have r_25 := hw.ra (t + 7) k
        have g_29 := hw.2.2.1 t 7
        exact ih hw (by omega) (by omega)
theorem w_goOn {σ : cS} {t : Nat} (hw : wf σ) (ht : kd t = 4) : wf (c_goOn σ t) := by
  unfold c_goOn
  have g_3 := hw.2.2.1 t 8
  exact w_goOnL hw ht (200000002) (by omega) (by omega)
