def c_mbegins (σ : mS) (t : Int) (k : Int) : Int := (if (mat (σ.2 4) ((24 * t) + k)) ≤ 0 then (if 0 ≤ (c_mfollowing σ t (-1) k) then (mat (σ.2 4) ((24 * t) + (c_mfollowing σ t (-1) k))) else 0) else (mat (σ.2 4) ((24 * t) + k)))
theorem t_mbegins {l : Launch} {G : jG} {d : Nat} {σ : mS} {t : Int} {k : Int} (hw : wfm σ) (hd : 1 ≤ d) (ht : 0 ≤ t ∧ t ≤ 3) (hk : 0 ≤ k ∧ k ≤ 23) : CJ jMod mown l G (Yx mX7_begins) d 0 0 0 [some (.ref 116), some (vi t), some (vi k), none, none] [] σ (det (some (vi (c_mbegins σ t k))) σ) := by
  refine C_bipush dX7_begins_0 (by decide) ?_
  refine C_iload_n dX7_begins_2 rfl ?_
  refine C_imul dX7_begins_3 ?_
  refine C_iload_n dX7_begins_4 rfl ?_
  refine C_iadd dX7_begins_5 ?_
  refine C_istore_n dX7_begins_6 (by decide) rfl ?_
  simp only [List.set_cons_zero, List.set_cons_succ, jfin0, jfin1, jfin2, jfin3]
  refine C_aload_n dX7_begins_7 rfl ?_
  refine C_get (v := .ref 119) dX7_begins_8 f_X7_16 (fun h hc => ⟨_, hc.1, rfl⟩) ?_
  refine C_iload_n dX7_begins_11 rfl ?_
  refine C_iald (v := vi (mat (σ.2 4) ((24 * t) + k))) dX7_begins_12 (by omega) (by omega) (fun h hc => hc.rd4 hw (by omega) (by omega)) ?_
  have e_12 := hw.a4 ((24 * t) + k)
  refine C_if_le (tgt := 23) dX7_begins_13 (by decide) (by omega) (fun c_13 => ?_) (fun c_13 => ?_)
  · refine C_aload_n dX7_begins_23 rfl ?_
    refine C_iload_n dX7_begins_24 rfl ?_
    refine C_iconst dX7_begins_25 ?_
    refine C_iload_n dX7_begins_26 rfl ?_
    refine D_callV (As := [vi _, vi _, vi _]) (d' := 0) (t_mfollowing hw (Nat.le_refl _) (by omega) (by omega) (by omega)) dX7_begins_27 v_X7_118 (fun h hc => ⟨_, hc.1⟩) rfl (Nat.le_of_ble_eq_true rfl) (by omega) (Nat.le_of_ble_eq_true rfl) ?_
    simp only [Option.toList, List.nil_append, List.cons_append]
    have r_27 := r_mfollowing (t := t) (k := (-1)) (g := k) hw (by omega) (by omega) (by omega)
    refine C_istore dX7_begins_30 (by decide) rfl ?_
    simp only [List.set_cons_zero, List.set_cons_succ, jfin0, jfin1, jfin2, jfin3]
    refine C_iload dX7_begins_32 rfl ?_
    refine C_if_ge (tgt := 41) dX7_begins_34 (by decide) (by omega) (fun c_34 => ?_) (fun c_34 => ?_)
    · refine C_aload_n dX7_begins_41 rfl ?_
      refine C_get (v := .ref 119) dX7_begins_42 f_X7_16 (fun h hc => ⟨_, hc.1, rfl⟩) ?_
      refine C_bipush dX7_begins_45 (by decide) ?_
      refine C_iload_n dX7_begins_47 rfl ?_
      refine C_imul dX7_begins_48 ?_
      refine C_iload dX7_begins_49 rfl ?_
      refine C_iadd dX7_begins_51 ?_
      refine C_iald (v := vi (mat (σ.2 4) ((24 * t) + (c_mfollowing σ t (-1) k)))) dX7_begins_52 (by omega) (by omega) (fun h hc => hc.rd4 hw (by omega) (by omega)) ?_
      have e_52 := hw.a4 ((24 * t) + (c_mfollowing σ t (-1) k))
      refine C_iret dX7_begins_53 rfl ?_
      unfold det; rw [c_mbegins, if_pos (by omega), if_pos (by omega)]; exact ⟨rfl, rfl⟩
    · refine C_iconst dX7_begins_37 ?_
      refine C_goto (tgt := 53) dX7_begins_38 (by decide) ?_
      refine C_iret dX7_begins_53 rfl ?_
      unfold det; rw [c_mbegins, if_pos (by omega), if_neg (by omega)]; exact ⟨rfl, rfl⟩
  · refine C_aload_n dX7_begins_16 rfl ?_
    refine C_get (v := .ref 119) dX7_begins_17 f_X7_16 (fun h hc => ⟨_, hc.1, rfl⟩) ?_
    refine C_iload_n dX7_begins_20 rfl ?_
    refine C_iald (v := vi (mat (σ.2 4) ((24 * t) + k))) dX7_begins_21 (by omega) (by omega) (fun h hc => hc.rd4 hw (by omega) (by omega)) ?_
    have e_21 := hw.a4 ((24 * t) + k)
    refine C_iret dX7_begins_22 rfl ?_
    unfold det; rw [c_mbegins, if_neg (by omega)]; exact ⟨rfl, rfl⟩
theorem r_mbegins {σ : mS} {t : Int} {k : Int} (hw : wfm σ) (ht : 0 ≤ t ∧ t ≤ 3) (hk : 0 ≤ k ∧ k ≤ 23) : 0 ≤ (c_mbegins σ t k) ∧ (c_mbegins σ t k) < 16777216 := by
  unfold c_mbegins
  split
  · split
    · have e_12 := hw.a4 ((24 * t) + k)
      have r_27 := r_mfollowing (t := t) (k := (-1)) (g := k) hw (by omega) (by omega) (by omega)
      have e_52 := hw.a4 ((24 * t) + (c_mfollowing σ t (-1) k))
      omega
    · have e_12 := hw.a4 ((24 * t) + k)
      have r_27 := r_mfollowing (t := t) (k := (-1)) (g := k) hw (by omega) (by omega) (by omega)
      omega
  · have e_12 := hw.a4 ((24 * t) + k)
    have e_21 := hw.a4 ((24 * t) + k)
    omega
def c_mgoOn (σ : mS) (t : Int) : mS := (if (σ.1 45) = 0 then (mfl (mfl σ 43 (c_mfollowing σ t (σ.1 43) (-1))) 44 0) else (mfl (mfl σ 43 (c_mfollowing σ t (σ.1 43) (mat (σ.2 46) ((σ.1 45) - 1)))) 44 0))
theorem t_mgoOn {l : Launch} {G : jG} {d : Nat} {σ : mS} {t : Int} (hw : wfm σ) (hd : 1 ≤ d) (ht : 0 ≤ t ∧ t ≤ 3) : CJ jMod mown l G (Yx mX7_goOn) d 0 0 0 [some (.ref 116), some (vi t), none] [] σ (det none (c_mgoOn σ t)) := by
  refine C_aload_n dX7_goOn_0 rfl ?_
  refine C_get (v := vi (σ.1 45)) dX7_goOn_1 f_X7_215 (fun h hc => ⟨_, hc.1, rfl⟩) ?_
  have g_1 := hw.f45
  refine C_if_ne (tgt := 11) dX7_goOn_4 (by decide) (by omega) (fun c_4 => ?_) (fun c_4 => ?_)
  · refine C_aload_n dX7_goOn_11 rfl ?_
    refine C_get (v := .ref 142) dX7_goOn_12 f_X7_90 (fun h hc => ⟨_, hc.1, rfl⟩) ?_
    refine C_aload_n dX7_goOn_15 rfl ?_
    refine C_get (v := vi (σ.1 45)) dX7_goOn_16 f_X7_215 (fun h hc => ⟨_, hc.1, rfl⟩) ?_
    have g_16 := hw.f45
    refine C_iconst dX7_goOn_19 ?_
    refine C_isub dX7_goOn_20 ?_
    refine C_iald (v := vi (mat (σ.2 46) ((σ.1 45) - 1))) dX7_goOn_21 (by omega) (by omega) (fun h hc => hc.rd46 hw (by omega) (by omega)) ?_
    have e_21 := hw.a46 ((σ.1 45) - 1)
    refine C_istore_n dX7_goOn_22 (by decide) rfl ?_
    simp only [List.set_cons_zero, List.set_cons_succ, jfin0, jfin1, jfin2, jfin3]
    refine C_aload_n dX7_goOn_23 rfl ?_
    refine C_aload_n dX7_goOn_24 rfl ?_
    refine C_iload_n dX7_goOn_25 rfl ?_
    refine C_aload_n dX7_goOn_26 rfl ?_
    refine C_get (v := vi (σ.1 43)) dX7_goOn_27 f_X7_218 (fun h hc => ⟨_, hc.1, rfl⟩) ?_
    have g_27 := hw.f43
    refine C_iload_n dX7_goOn_30 rfl ?_
    refine D_callV (As := [vi _, vi _, vi _]) (d' := 0) (t_mfollowing hw (Nat.le_refl _) (by omega) (by omega) (by omega)) dX7_goOn_31 v_X7_118 (fun h hc => ⟨_, hc.1⟩) rfl (Nat.le_of_ble_eq_true rfl) (by omega) (Nat.le_of_ble_eq_true rfl) ?_
    simp only [Option.toList, List.nil_append, List.cons_append]
    have r_31 := r_mfollowing (t := t) (k := (σ.1 43)) (g := (mat (σ.2 46) ((σ.1 45) - 1))) hw (by omega) (by omega) (by omega)
    refine C_put (σ' := (mfl σ 43 (c_mfollowing σ t (σ.1 43) (mat (σ.2 46) ((σ.1 45) - 1))))) dX7_goOn_34 f_X7_218 jfit_i mown_0 (fun h hc => hc.pf43) ?_
    have hw2 : wfm (mfl σ 43 (c_mfollowing σ t (σ.1 43) (mat (σ.2 46) ((σ.1 45) - 1)))) := wfm_f (k := 43) hw (show (-1 : Int) ≤ (c_mfollowing σ t (σ.1 43) (mat (σ.2 46) ((σ.1 45) - 1))) ∧ (c_mfollowing σ t (σ.1 43) (mat (σ.2 46) ((σ.1 45) - 1))) ≤ 23 by omega)
    refine C_aload_n dX7_goOn_37 rfl ?_
    refine C_iconst dX7_goOn_38 ?_
    refine C_put (σ' := (mfl (mfl σ 43 (c_mfollowing σ t (σ.1 43) (mat (σ.2 46) ((σ.1 45) - 1)))) 44 0)) dX7_goOn_39 f_X7_221 jfit_i mown_0 (fun h hc => hc.pf44) ?_
    have hw3 : wfm (mfl (mfl σ 43 (c_mfollowing σ t (σ.1 43) (mat (σ.2 46) ((σ.1 45) - 1)))) 44 0) := wfm_f (k := 44) hw2 (show (0 : Int) ≤ 0 ∧ 0 ≤ 99 by omega)
    refine C_vret dX7_goOn_42 rfl ⟨rfl, ?_⟩
    rw [c_mgoOn, if_neg (by omega)]
  · refine C_iconst dX7_goOn_7 ?_
    refine C_goto (tgt := 22) dX7_goOn_8 (by decide) ?_
    refine C_istore_n dX7_goOn_22 (by decide) rfl ?_
    simp only [List.set_cons_zero, List.set_cons_succ, jfin0, jfin1, jfin2, jfin3]
    refine C_aload_n dX7_goOn_23 rfl ?_
    refine C_aload_n dX7_goOn_24 rfl ?_
    refine C_iload_n dX7_goOn_25 rfl ?_
    refine C_aload_n dX7_goOn_26 rfl ?_
    refine C_get (v := vi (σ.1 43)) dX7_goOn_27 f_X7_218 (fun h hc => ⟨_, hc.1, rfl⟩) ?_
    have g_27 := hw.f43
    refine C_iload_n dX7_goOn_30 rfl ?_
    refine D_callV (As := [vi _, vi _, vi _]) (d' := 0) (t_mfollowing hw (Nat.le_refl _) (by omega) (by omega) (by omega)) dX7_goOn_31 v_X7_118 (fun h hc => ⟨_, hc.1⟩) rfl (Nat.le_of_ble_eq_true rfl) (by omega) (Nat.le_of_ble_eq_true rfl) ?_
    simp only [Option.toList, List.nil_append, List.cons_append]
    have r_31 := r_mfollowing (t := t) (k := (σ.1 43)) (g := (-1)) hw (by omega) (by omega) (by omega)
    refine C_put (σ' := (mfl σ 43 (c_mfollowing σ t (σ.1 43) (-1)))) dX7_goOn_34 f_X7_218 jfit_i mown_0 (fun h hc => hc.pf43) ?_
    have hw4 : wfm (mfl σ 43 (c_mfollowing σ t (σ.1 43) (-1))) := wfm_f (k := 43) hw (show (-1 : Int) ≤ (c_mfollowing σ t (σ.1 43) (-1)) ∧ (c_mfollowing σ t (σ.1 43) (-1)) ≤ 23 by omega)
    refine C_aload_n dX7_goOn_37 rfl ?_
    refine C_iconst dX7_goOn_38 ?_
    refine C_put (σ' := (mfl (mfl σ 43 (c_mfollowing σ t (σ.1 43) (-1))) 44 0)) dX7_goOn_39 f_X7_221 jfit_i mown_0 (fun h hc => hc.pf44) ?_
    have hw5 : wfm (mfl (mfl σ 43 (c_mfollowing σ t (σ.1 43) (-1))) 44 0) := wfm_f (k := 44) hw4 (show (0 : Int) ≤ 0 ∧ 0 ≤ 99 by omega)
    refine C_vret dX7_goOn_42 rfl ⟨rfl, ?_⟩
    rw [c_mgoOn, if_pos (by omega)]
theorem w_mgoOn {σ : mS} {t : Int} (hw : wfm σ) (ht : 0 ≤ t ∧ t ≤ 3) : wfm (c_mgoOn σ t) := by
  unfold c_mgoOn
  split
  · have g_1 := hw.f45
    have g_27 := hw.f43
    have r_31 := r_mfollowing (t := t) (k := (σ.1 43)) (g := (-1)) hw (by omega) (by omega) (by omega)
    have hw4 : wfm (mfl σ 43 (c_mfollowing σ t (σ.1 43) (-1))) := wfm_f (k := 43) hw (show (-1 : Int) ≤ (c_mfollowing σ t (σ.1 43) (-1)) ∧ (c_mfollowing σ t (σ.1 43) (-1)) ≤ 23 by omega)
    have hw5 : wfm (mfl (mfl σ 43 (c_mfollowing σ t (σ.1 43) (-1))) 44 0) := wfm_f (k := 44) hw4 (show (0 : Int) ≤ 0 ∧ 0 ≤ 99 by omega)
    exact hw5
  · have g_1 := hw.f45
    have g_16 := hw.f45
    have e_21 := hw.a46 ((σ.1 45) - 1)
    have g_27 := hw.f43
    have r_31 := r_mfollowing (t := t) (k := (σ.1 43)) (g := (mat (σ.2 46) ((σ.1 45) - 1))) hw (by omega) (by omega) (by omega)
    have hw2 : wfm (mfl σ 43 (c_mfollowing σ t (σ.1 43) (mat (σ.2 46) ((σ.1 45) - 1)))) := wfm_f (k := 43) hw (show (-1 : Int) ≤ (c_mfollowing σ t (σ.1 43) (mat (σ.2 46) ((σ.1 45) - 1))) ∧ (c_mfollowing σ t (σ.1 43) (mat (σ.2 46) ((σ.1 45) - 1))) ≤ 23 by omega)
    have hw3 : wfm (mfl (mfl σ 43 (c_mfollowing σ t (σ.1 43) (mat (σ.2 46) ((σ.1 45) - 1)))) 44 0) := wfm_f (k := 44) hw2 (show (0 : Int) ≤ 0 ∧ 0 ≤ 99 by omega)
    exact hw3
/-- no more was had than may be; the stack is no deeper than three -/
def mH (σ : mS) (t : Int) : Prop := σ.1 45 ≤ 3 ∧ (0 ≤ σ.1 43 → σ.1 44 ≤ mat (σ.2 6) ((24 * t) + σ.1 43)) ∧ ∀ j, 0 ≤ j → j < σ.1 45 → mat (σ.2 47) j ≤ mat (σ.2 6) ((24 * t) + mat (σ.2 46) j)
theorem mgo_2 {σ : mS} {t : Int} : (c_mgoOn σ t).2 = σ.2 := by
  unfold c_mgoOn; split <;> rfl
theorem mgo_45 {σ : mS} {t : Int} : (c_mgoOn σ t).1 45 = σ.1 45 := by
  unfold c_mgoOn; split <;> rfl
theorem mgo_44 {σ : mS} {t : Int} : (c_mgoOn σ t).1 44 = 0 := by
  unfold c_mgoOn; split <;> rfl
theorem mH_go {σ : mS} {t : Int} (hw : wfm σ) (h : mH σ t) : mH (c_mgoOn σ t) t := by
  obtain ⟨h1, h2, h3⟩ := h
  refine ⟨by rw [mgo_45]; exact h1, fun _ => ?_, ?_⟩
  · rw [mgo_44, mgo_2]; exact (hw.a6 _).1
  · rw [mgo_45, mgo_2]; exact h3
theorem mH_pop {σ : mS} {t : Int} (h : mH σ t) (h0 : 0 < σ.1 45) : mH (mfl (mfl (mfl σ 45 (σ.1 45 - 1)) 43 (mat (σ.2 46) (σ.1 45 - 1))) 44 (mat (σ.2 47) (σ.1 45 - 1))) t := by
  obtain ⟨h1, h2, h3⟩ := h
  refine ⟨?_, fun _ => ?_, fun j q0 q1 => ?_⟩
  · show σ.1 45 - 1 ≤ 3; omega
  · exact h3 (σ.1 45 - 1) (by omega) (by omega)
  · exact h3 j q0 (by have : j < σ.1 45 - 1 := q1; omega)
def c_mcomesL (t : Int) (v : Int) : Nat → Int → mS → Int × mS
  | 0, _, σ => (0, σ)
  | fu + 1, n, σ => (if 200 ≤ n then (4, σ) else (if 0 ≤ (σ.1 43) then (if (c_mbegins σ t (σ.1 43)) = v then (if (σ.1 44) = (mat (σ.2 6) ((24 * t) + (σ.1 43))) then (6, σ) else (if (mat (σ.2 4) ((24 * t) + (σ.1 43))) = 0 then (0, (mfl (mfl (mfl (mar (mar (mfl σ 44 ((σ.1 44) + 1)) 46 (σ.1 45) (σ.1 43)) 47 (σ.1 45) ((σ.1 44) + 1)) 45 ((σ.1 45) + 1)) 43 (c_mfollowing (mfl (mar (mar (mfl σ 44 ((σ.1 44) + 1)) 46 (σ.1 45) (σ.1 43)) 47 (σ.1 45) ((σ.1 44) + 1)) 45 ((σ.1 45) + 1)) t (c_mfollowing (mfl (mar (mar (mfl σ 44 ((σ.1 44) + 1)) 46 (σ.1 45) (σ.1 43)) 47 (σ.1 45) ((σ.1 44) + 1)) 45 ((σ.1 45) + 1)) t (-1) (σ.1 43)) (σ.1 43))) 44 0)) else (0, (mfl σ 44 ((σ.1 44) + 1))))) else (if (mat (σ.2 5) ((24 * t) + (σ.1 43))) = 0 then (c_mcomesL t v fu (n + 1) (c_mgoOn σ t)) else (if (σ.1 44) = 0 then (5, σ) else (c_mcomesL t v fu (n + 1) (c_mgoOn σ t))))) else (if (σ.1 45) = 0 then (4, σ) else (c_mcomesL t v fu (n + 1) (mfl (mfl (mfl σ 45 ((σ.1 45) - 1)) 43 (mat (σ.2 46) ((σ.1 45) - 1))) 44 (mat (σ.2 47) ((σ.1 45) - 1)))))))
def c_mcomes (σ : mS) (t : Int) (v : Int) : Int × mS := (c_mcomesL t v (201) 0 σ)
theorem t_mcomesL {l : Launch} {G : jG} {d : Nat} {σ : mS} {t : Int} {v : Int} {n : Int} (hw : wfm σ) (hd : 2 ≤ d) (ht : 0 ≤ t ∧ t ≤ 3) (hv : 0 ≤ v ∧ v ≤ 16777215) (fu : Nat) (hn : 0 ≤ n ∧ n ≤ 200) (hq : mH σ t) (hm : 200 - n < (fu : Int)) : CJ jMod mown l G (Yx mX7_comes) d 0 0 2 [some (.ref 116), some (vi t), some (vi v), some (vi n), none] [] σ (det (some (vi (c_mcomesL t v fu n σ).1)) (c_mcomesL t v fu n σ).2) := by
  induction fu generalizing σ n with
  | zero => have hq1 := hq.1; have hq2 := hq.2.1; exact absurd hm (by omega)
  | succ fu ih =>
    have hq1 := hq.1
    have hq2 := hq.2.1
    refine C_iload_n dX7_comes_2 rfl ?_
    refine C_sipush dX7_comes_3 (by decide) ?_
    refine C_icmp_ge (tgt := 221) dX7_comes_6 (by decide) (by omega) (by omega) (fun c_6 => ?_) (fun c_6 => ?_)
    · refine C_iconst dX7_comes_221 ?_
      refine C_iret dX7_comes_222 rfl ?_
      unfold det; rw [c_mcomesL, if_pos (by omega)]; exact ⟨rfl, rfl⟩
    · refine C_aload_n dX7_comes_9 rfl ?_
      refine C_get (v := vi (σ.1 43)) dX7_comes_10 f_X7_218 (fun h hc => ⟨_, hc.1, rfl⟩) ?_
      have g_10 := hw.f43
      refine C_if_ge (tgt := 64) dX7_comes_13 (by decide) (by omega) (fun c_13 => ?_) (fun c_13 => ?_)
      · refine C_bipush dX7_comes_64 (by decide) ?_
        refine C_iload_n dX7_comes_66 rfl ?_
        refine C_imul dX7_comes_67 ?_
        refine C_aload_n dX7_comes_68 rfl ?_
        refine C_get (v := vi (σ.1 43)) dX7_comes_69 f_X7_218 (fun h hc => ⟨_, hc.1, rfl⟩) ?_
        have g_69 := hw.f43
        refine C_iadd dX7_comes_72 ?_
        refine C_istore dX7_comes_73 (by decide) rfl ?_
        simp only [List.set_cons_zero, List.set_cons_succ, jfin0, jfin1, jfin2, jfin3]
        refine C_aload_n dX7_comes_75 rfl ?_
        refine C_iload_n dX7_comes_76 rfl ?_
        refine C_aload_n dX7_comes_77 rfl ?_
        refine C_get (v := vi (σ.1 43)) dX7_comes_78 f_X7_218 (fun h hc => ⟨_, hc.1, rfl⟩) ?_
        have g_78 := hw.f43
        refine D_callV (As := [vi _, vi _]) (d' := 1) (t_mbegins hw (Nat.le_refl _) (by omega) (by omega)) dX7_comes_81 v_X7_224 (fun h hc => ⟨_, hc.1⟩) rfl (Nat.le_of_ble_eq_true rfl) (by omega) (Nat.le_of_ble_eq_true rfl) ?_
        simp only [Option.toList, List.nil_append, List.cons_append]
        have r_81 := r_mbegins (t := t) (k := (σ.1 43)) hw (by omega) (by omega)
        refine C_iload_n dX7_comes_84 rfl ?_
        refine C_icmp_ne (tgt := 191) dX7_comes_85 (by decide) (by omega) (by omega) (fun c_85 => ?_) (fun c_85 => ?_)
        · refine C_aload_n dX7_comes_191 rfl ?_
          refine C_get (v := .ref 120) dX7_comes_192 f_X7_19 (fun h hc => ⟨_, hc.1, rfl⟩) ?_
          refine C_iload dX7_comes_195 rfl ?_
          refine C_zald (v := vi (mat (σ.2 5) ((24 * t) + (σ.1 43)))) dX7_comes_197 (by omega) (by omega) (fun h hc => hc.rd5 hw (by omega) (by omega)) ?_
          have e_197 := hw.a5 ((24 * t) + (σ.1 43))
          refine C_if_eq (tgt := 210) dX7_comes_198 (by decide) (by omega) (fun c_198 => ?_) (fun c_198 => ?_)
          · refine C_aload_n dX7_comes_210 rfl ?_
            refine C_iload_n dX7_comes_211 rfl ?_
            refine D_callV (As := [vi _]) (d' := 1) (t_mgoOn hw (Nat.le_refl _) (by omega)) dX7_comes_212 v_X7_227 (fun h hc => ⟨_, hc.1⟩) rfl (Nat.le_of_ble_eq_true rfl) (by omega) (Nat.le_of_ble_eq_true rfl) ?_
            simp only [Option.toList, List.nil_append, List.cons_append]
            have hw5 : wfm (c_mgoOn σ t) := w_mgoOn hw (by omega)
            refine C_iinc dX7_comes_215 rfl (by decide) rfl ?_
            simp only [List.set_cons_zero, List.set_cons_succ]
            refine C_goto (tgt := 2) dX7_comes_218 (by decide) ?_
            rw [c_mcomesL, if_neg (by omega), if_pos (by omega), if_neg (by omega), if_pos (by omega)]
            refine CJ.mono (ls' := [some (.ref 116), some (vi t), some (vi v), some (vi (n + 1)), none]) (lsub_ok (by repeat (first | exact trivial | refine ⟨rfl, ?_⟩))) (fun _ _ q => q) ?_
            exact ih hw5 (by omega) (by first | exact hq | exact mH_pop hq (by omega) | exact mH_go hw hq) (by omega)
          · refine C_aload_n dX7_comes_201 rfl ?_
            refine C_get (v := vi (σ.1 44)) dX7_comes_202 f_X7_221 (fun h hc => ⟨_, hc.1, rfl⟩) ?_
            have g_202 := hw.f44
            refine C_if_ne (tgt := 210) dX7_comes_205 (by decide) (by omega) (fun c_205 => ?_) (fun c_205 => ?_)
            · refine C_aload_n dX7_comes_210 rfl ?_
              refine C_iload_n dX7_comes_211 rfl ?_
              refine D_callV (As := [vi _]) (d' := 1) (t_mgoOn hw (Nat.le_refl _) (by omega)) dX7_comes_212 v_X7_227 (fun h hc => ⟨_, hc.1⟩) rfl (Nat.le_of_ble_eq_true rfl) (by omega) (Nat.le_of_ble_eq_true rfl) ?_
              simp only [Option.toList, List.nil_append, List.cons_append]
              have hw7 : wfm (c_mgoOn σ t) := w_mgoOn hw (by omega)
              refine C_iinc dX7_comes_215 rfl (by decide) rfl ?_
              simp only [List.set_cons_zero, List.set_cons_succ]
              refine C_goto (tgt := 2) dX7_comes_218 (by decide) ?_
              rw [c_mcomesL, if_neg (by omega), if_pos (by omega), if_neg (by omega), if_neg (by omega), if_neg (by omega)]
              refine CJ.mono (ls' := [some (.ref 116), some (vi t), some (vi v), some (vi (n + 1)), none]) (lsub_ok (by repeat (first | exact trivial | refine ⟨rfl, ?_⟩))) (fun _ _ q => q) ?_
              exact ih hw7 (by omega) (by first | exact hq | exact mH_pop hq (by omega) | exact mH_go hw hq) (by omega)
            · refine C_iconst dX7_comes_208 ?_
              refine C_iret dX7_comes_209 rfl ?_
              unfold det; rw [c_mcomesL, if_neg (by omega), if_pos (by omega), if_neg (by omega), if_neg (by omega), if_pos (by omega)]; exact ⟨rfl, rfl⟩
        · refine C_aload_n dX7_comes_88 rfl ?_
          refine C_get (v := vi (σ.1 44)) dX7_comes_89 f_X7_221 (fun h hc => ⟨_, hc.1, rfl⟩) ?_
          have g_89 := hw.f44
          refine C_aload_n dX7_comes_92 rfl ?_
          refine C_get (v := .ref 121) dX7_comes_93 f_X7_23 (fun h hc => ⟨_, hc.1, rfl⟩) ?_
          refine C_iload dX7_comes_96 rfl ?_
          refine C_iald (v := vi (mat (σ.2 6) ((24 * t) + (σ.1 43)))) dX7_comes_98 (by omega) (by omega) (fun h hc => hc.rd6 hw (by omega) (by omega)) ?_
          have e_98 := hw.a6 ((24 * t) + (σ.1 43))
          refine C_icmp_ne (tgt := 105) dX7_comes_99 (by decide) (by omega) (by omega) (fun c_99 => ?_) (fun c_99 => ?_)
          · refine C_aload_n dX7_comes_105 rfl ?_
            refine C_dup dX7_comes_106 rfl ?_
            refine C_get (v := vi (σ.1 44)) dX7_comes_107 f_X7_221 (fun h hc => ⟨_, hc.1, rfl⟩) ?_
            have g_107 := hw.f44
            refine C_iconst dX7_comes_110 ?_
            refine C_iadd dX7_comes_111 ?_
            refine C_put (σ' := (mfl σ 44 ((σ.1 44) + 1))) dX7_comes_112 f_X7_221 jfit_i mown_0 (fun h hc => hc.pf44) ?_
            have hw9 : wfm (mfl σ 44 ((σ.1 44) + 1)) := wfm_f (k := 44) hw (show (0 : Int) ≤ ((σ.1 44) + 1) ∧ ((σ.1 44) + 1) ≤ 99 by omega)
            refine C_aload_n dX7_comes_115 rfl ?_
            refine C_get (v := .ref 119) dX7_comes_116 f_X7_16 (fun h hc => ⟨_, hc.1, rfl⟩) ?_
            refine C_iload dX7_comes_119 rfl ?_
            refine C_iald (v := vi (mat (σ.2 4) ((24 * t) + (σ.1 43)))) dX7_comes_121 (by omega) (by omega) (fun h hc => (hc.rd4 hw9 (by omega) (by omega)).imp (fun vs q => ⟨q.1, q.2.trans (congrArg (fun z => some (vi (mat z ((24 * t) + (σ.1 43))))) (show (mfl σ 44 ((σ.1 44) + 1)).2 4 = σ.2 4 by simp [mfl, mar, upF]))⟩)) ?_
            have e_121 := hw.a4 ((24 * t) + (σ.1 43))
            refine C_if_ne (tgt := 189) dX7_comes_122 (by decide) (by omega) (fun c_122 => ?_) (fun c_122 => ?_)
            · refine C_iconst dX7_comes_189 ?_
              refine C_iret dX7_comes_190 rfl ?_
              unfold det; rw [c_mcomesL, if_neg (by omega), if_pos (by omega), if_pos (by omega), if_neg (by omega), if_neg (by omega)]; exact ⟨rfl, rfl⟩
            · refine C_aload_n dX7_comes_125 rfl ?_
              refine C_get (v := .ref 142) dX7_comes_126 f_X7_90 (fun h hc => ⟨_, hc.1, rfl⟩) ?_
              refine C_aload_n dX7_comes_129 rfl ?_
              refine C_get (v := vi (σ.1 45)) dX7_comes_130 f_X7_215 (fun h hc => ⟨_, hc.1, congrArg (fun z => some (vi z)) (show ((mfl σ 44 ((σ.1 44) + 1)).1 45) = (σ.1 45) by simp [mfl, mar, upF])⟩) ?_
              have g_130 := hw.f45
              refine C_aload_n dX7_comes_133 rfl ?_
              refine C_get (v := vi (σ.1 43)) dX7_comes_134 f_X7_218 (fun h hc => ⟨_, hc.1, congrArg (fun z => some (vi z)) (show ((mfl σ 44 ((σ.1 44) + 1)).1 43) = (σ.1 43) by simp [mfl, mar, upF])⟩) ?_
              have g_134 := hw.f43
              refine C_iast (σ' := (mar (mfl σ 44 ((σ.1 44) + 1)) 46 (σ.1 45) (σ.1 43))) dX7_comes_137 (by omega) (by omega) mo46 (fun h hc => hc.st46 hw9 (by omega) (by omega)) ?_
              have hw11 : wfm (mar (mfl σ 44 ((σ.1 44) + 1)) 46 (σ.1 45) (σ.1 43)) := wfm_a (k := 46) hw9 (show (0 : Int) ≤ (σ.1 43) ∧ (σ.1 43) ≤ 23 by omega)
              refine C_aload_n dX7_comes_138 rfl ?_
              refine C_get (v := .ref 143) dX7_comes_139 f_X7_93 (fun h hc => ⟨_, hc.1, rfl⟩) ?_
              refine C_aload_n dX7_comes_142 rfl ?_
              refine C_get (v := vi (σ.1 45)) dX7_comes_143 f_X7_215 (fun h hc => ⟨_, hc.1, congrArg (fun z => some (vi z)) (show ((mar (mfl σ 44 ((σ.1 44) + 1)) 46 (σ.1 45) (σ.1 43)).1 45) = (σ.1 45) by simp [mfl, mar, upF])⟩) ?_
              have g_143 := hw.f45
              refine C_aload_n dX7_comes_146 rfl ?_
              refine C_get (v := vi ((σ.1 44) + 1)) dX7_comes_147 f_X7_221 (fun h hc => ⟨_, hc.1, congrArg (fun z => some (vi z)) (show ((mar (mfl σ 44 ((σ.1 44) + 1)) 46 (σ.1 45) (σ.1 43)).1 44) = ((σ.1 44) + 1) by simp [mfl, mar, upF])⟩) ?_
              refine C_iast (σ' := (mar (mar (mfl σ 44 ((σ.1 44) + 1)) 46 (σ.1 45) (σ.1 43)) 47 (σ.1 45) ((σ.1 44) + 1))) dX7_comes_150 (by omega) (by omega) mo47 (fun h hc => hc.st47 hw11 (by omega) (by omega)) ?_
              have hw12 : wfm (mar (mar (mfl σ 44 ((σ.1 44) + 1)) 46 (σ.1 45) (σ.1 43)) 47 (σ.1 45) ((σ.1 44) + 1)) := wfm_a (k := 47) hw11 (show (0 : Int) ≤ ((σ.1 44) + 1) ∧ ((σ.1 44) + 1) ≤ 99 by omega)
              refine C_aload_n dX7_comes_151 rfl ?_
              refine C_dup dX7_comes_152 rfl ?_
              refine C_get (v := vi (σ.1 45)) dX7_comes_153 f_X7_215 (fun h hc => ⟨_, hc.1, congrArg (fun z => some (vi z)) (show ((mar (mar (mfl σ 44 ((σ.1 44) + 1)) 46 (σ.1 45) (σ.1 43)) 47 (σ.1 45) ((σ.1 44) + 1)).1 45) = (σ.1 45) by simp [mfl, mar, upF])⟩) ?_
              have g_153 := hw.f45
              refine C_iconst dX7_comes_156 ?_
              refine C_iadd dX7_comes_157 ?_
              refine C_put (σ' := (mfl (mar (mar (mfl σ 44 ((σ.1 44) + 1)) 46 (σ.1 45) (σ.1 43)) 47 (σ.1 45) ((σ.1 44) + 1)) 45 ((σ.1 45) + 1))) dX7_comes_158 f_X7_215 jfit_i mown_0 (fun h hc => hc.pf45) ?_
              have hw13 : wfm (mfl (mar (mar (mfl σ 44 ((σ.1 44) + 1)) 46 (σ.1 45) (σ.1 43)) 47 (σ.1 45) ((σ.1 44) + 1)) 45 ((σ.1 45) + 1)) := wfm_f (k := 45) hw12 (show (0 : Int) ≤ ((σ.1 45) + 1) ∧ ((σ.1 45) + 1) ≤ 4 by omega)
              refine C_aload_n dX7_comes_161 rfl ?_
              refine C_aload_n dX7_comes_162 rfl ?_
              refine C_iload_n dX7_comes_163 rfl ?_
              refine C_aload_n dX7_comes_164 rfl ?_
              refine C_iload_n dX7_comes_165 rfl ?_
              refine C_iconst dX7_comes_166 ?_
              refine C_aload_n dX7_comes_167 rfl ?_
              refine C_get (v := vi (σ.1 43)) dX7_comes_168 f_X7_218 (fun h hc => ⟨_, hc.1, congrArg (fun z => some (vi z)) (show ((mfl (mar (mar (mfl σ 44 ((σ.1 44) + 1)) 46 (σ.1 45) (σ.1 43)) 47 (σ.1 45) ((σ.1 44) + 1)) 45 ((σ.1 45) + 1)).1 43) = (σ.1 43) by simp [mfl, mar, upF])⟩) ?_
              have g_168 := hw.f43
              refine D_callV (As := [vi _, vi _, vi _]) (d' := 0) (t_mfollowing hw13 (Nat.le_refl _) (by omega) (by omega) (by omega)) dX7_comes_171 v_X7_118 (fun h hc => ⟨_, hc.1⟩) rfl (Nat.le_of_ble_eq_true rfl) (by omega) (Nat.le_of_ble_eq_true rfl) ?_
              simp only [Option.toList, List.nil_append, List.cons_append]
              have r_171 := r_mfollowing (t := t) (k := (-1)) (g := (σ.1 43)) hw13 (by omega) (by omega) (by omega)
              refine C_aload_n dX7_comes_174 rfl ?_
              refine C_get (v := vi (σ.1 43)) dX7_comes_175 f_X7_218 (fun h hc => ⟨_, hc.1, congrArg (fun z => some (vi z)) (show ((mfl (mar (mar (mfl σ 44 ((σ.1 44) + 1)) 46 (σ.1 45) (σ.1 43)) 47 (σ.1 45) ((σ.1 44) + 1)) 45 ((σ.1 45) + 1)).1 43) = (σ.1 43) by simp [mfl, mar, upF])⟩) ?_
              have g_175 := hw.f43
              refine D_callV (As := [vi _, vi _, vi _]) (d' := 0) (t_mfollowing hw13 (Nat.le_refl _) (by omega) (by omega) (by omega)) dX7_comes_178 v_X7_118 (fun h hc => ⟨_, hc.1⟩) rfl (Nat.le_of_ble_eq_true rfl) (by omega) (Nat.le_of_ble_eq_true rfl) ?_
              simp only [Option.toList, List.nil_append, List.cons_append]
              have r_178 := r_mfollowing (t := t) (k := (c_mfollowing (mfl (mar (mar (mfl σ 44 ((σ.1 44) + 1)) 46 (σ.1 45) (σ.1 43)) 47 (σ.1 45) ((σ.1 44) + 1)) 45 ((σ.1 45) + 1)) t (-1) (σ.1 43))) (g := (σ.1 43)) hw13 (by omega) (by omega) (by omega)
              refine C_put (σ' := (mfl (mfl (mar (mar (mfl σ 44 ((σ.1 44) + 1)) 46 (σ.1 45) (σ.1 43)) 47 (σ.1 45) ((σ.1 44) + 1)) 45 ((σ.1 45) + 1)) 43 (c_mfollowing (mfl (mar (mar (mfl σ 44 ((σ.1 44) + 1)) 46 (σ.1 45) (σ.1 43)) 47 (σ.1 45) ((σ.1 44) + 1)) 45 ((σ.1 45) + 1)) t (c_mfollowing (mfl (mar (mar (mfl σ 44 ((σ.1 44) + 1)) 46 (σ.1 45) (σ.1 43)) 47 (σ.1 45) ((σ.1 44) + 1)) 45 ((σ.1 45) + 1)) t (-1) (σ.1 43)) (σ.1 43)))) dX7_comes_181 f_X7_218 jfit_i mown_0 (fun h hc => hc.pf43) ?_
              have hw14 : wfm (mfl (mfl (mar (mar (mfl σ 44 ((σ.1 44) + 1)) 46 (σ.1 45) (σ.1 43)) 47 (σ.1 45) ((σ.1 44) + 1)) 45 ((σ.1 45) + 1)) 43 (c_mfollowing (mfl (mar (mar (mfl σ 44 ((σ.1 44) + 1)) 46 (σ.1 45) (σ.1 43)) 47 (σ.1 45) ((σ.1 44) + 1)) 45 ((σ.1 45) + 1)) t (c_mfollowing (mfl (mar (mar (mfl σ 44 ((σ.1 44) + 1)) 46 (σ.1 45) (σ.1 43)) 47 (σ.1 45) ((σ.1 44) + 1)) 45 ((σ.1 45) + 1)) t (-1) (σ.1 43)) (σ.1 43))) := wfm_f (k := 43) hw13 (show (-1 : Int) ≤ (c_mfollowing (mfl (mar (mar (mfl σ 44 ((σ.1 44) + 1)) 46 (σ.1 45) (σ.1 43)) 47 (σ.1 45) ((σ.1 44) + 1)) 45 ((σ.1 45) + 1)) t (c_mfollowing (mfl (mar (mar (mfl σ 44 ((σ.1 44) + 1)) 46 (σ.1 45) (σ.1 43)) 47 (σ.1 45) ((σ.1 44) + 1)) 45 ((σ.1 45) + 1)) t (-1) (σ.1 43)) (σ.1 43)) ∧ (c_mfollowing (mfl (mar (mar (mfl σ 44 ((σ.1 44) + 1)) 46 (σ.1 45) (σ.1 43)) 47 (σ.1 45) ((σ.1 44) + 1)) 45 ((σ.1 45) + 1)) t (c_mfollowing (mfl (mar (mar (mfl σ 44 ((σ.1 44) + 1)) 46 (σ.1 45) (σ.1 43)) 47 (σ.1 45) ((σ.1 44) + 1)) 45 ((σ.1 45) + 1)) t (-1) (σ.1 43)) (σ.1 43)) ≤ 23 by omega)
              refine C_aload_n dX7_comes_184 rfl ?_
              refine C_iconst dX7_comes_185 ?_
              refine C_put (σ' := (mfl (mfl (mfl (mar (mar (mfl σ 44 ((σ.1 44) + 1)) 46 (σ.1 45) (σ.1 43)) 47 (σ.1 45) ((σ.1 44) + 1)) 45 ((σ.1 45) + 1)) 43 (c_mfollowing (mfl (mar (mar (mfl σ 44 ((σ.1 44) + 1)) 46 (σ.1 45) (σ.1 43)) 47 (σ.1 45) ((σ.1 44) + 1)) 45 ((σ.1 45) + 1)) t (c_mfollowing (mfl (mar (mar (mfl σ 44 ((σ.1 44) + 1)) 46 (σ.1 45) (σ.1 43)) 47 (σ.1 45) ((σ.1 44) + 1)) 45 ((σ.1 45) + 1)) t (-1) (σ.1 43)) (σ.1 43))) 44 0)) dX7_comes_186 f_X7_221 jfit_i mown_0 (fun h hc => hc.pf44) ?_
              have hw15 : wfm (mfl (mfl (mfl (mar (mar (mfl σ 44 ((σ.1 44) + 1)) 46 (σ.1 45) (σ.1 43)) 47 (σ.1 45) ((σ.1 44) + 1)) 45 ((σ.1 45) + 1)) 43 (c_mfollowing (mfl (mar (mar (mfl σ 44 ((σ.1 44) + 1)) 46 (σ.1 45) (σ.1 43)) 47 (σ.1 45) ((σ.1 44) + 1)) 45 ((σ.1 45) + 1)) t (c_mfollowing (mfl (mar (mar (mfl σ 44 ((σ.1 44) + 1)) 46 (σ.1 45) (σ.1 43)) 47 (σ.1 45) ((σ.1 44) + 1)) 45 ((σ.1 45) + 1)) t (-1) (σ.1 43)) (σ.1 43))) 44 0) := wfm_f (k := 44) hw14 (show (0 : Int) ≤ 0 ∧ 0 ≤ 99 by omega)
              refine C_iconst dX7_comes_189 ?_
              refine C_iret dX7_comes_190 rfl ?_
              unfold det; rw [c_mcomesL, if_neg (by omega), if_pos (by omega), if_pos (by omega), if_neg (by omega), if_pos (by omega)]; exact ⟨rfl, rfl⟩
          · refine C_bipush dX7_comes_102 (by decide) ?_
            refine C_iret dX7_comes_104 rfl ?_
            unfold det; rw [c_mcomesL, if_neg (by omega), if_pos (by omega), if_pos (by omega), if_pos (by omega)]; exact ⟨rfl, rfl⟩
      · refine C_aload_n dX7_comes_16 rfl ?_
        refine C_get (v := vi (σ.1 45)) dX7_comes_17 f_X7_215 (fun h hc => ⟨_, hc.1, rfl⟩) ?_
        have g_17 := hw.f45
        refine C_if_ne (tgt := 25) dX7_comes_20 (by decide) (by omega) (fun c_20 => ?_) (fun c_20 => ?_)
        · refine C_aload_n dX7_comes_25 rfl ?_
          refine C_dup dX7_comes_26 rfl ?_
          refine C_get (v := vi (σ.1 45)) dX7_comes_27 f_X7_215 (fun h hc => ⟨_, hc.1, rfl⟩) ?_
          have g_27 := hw.f45
          refine C_iconst dX7_comes_30 ?_
          refine C_isub dX7_comes_31 ?_
          refine C_put (σ' := (mfl σ 45 ((σ.1 45) - 1))) dX7_comes_32 f_X7_215 jfit_i mown_0 (fun h hc => hc.pf45) ?_
          have hw17 : wfm (mfl σ 45 ((σ.1 45) - 1)) := wfm_f (k := 45) hw (show (0 : Int) ≤ ((σ.1 45) - 1) ∧ ((σ.1 45) - 1) ≤ 4 by omega)
          refine C_aload_n dX7_comes_35 rfl ?_
          refine C_aload_n dX7_comes_36 rfl ?_
          refine C_get (v := .ref 142) dX7_comes_37 f_X7_90 (fun h hc => ⟨_, hc.1, rfl⟩) ?_
          refine C_aload_n dX7_comes_40 rfl ?_
          refine C_get (v := vi ((σ.1 45) - 1)) dX7_comes_41 f_X7_215 (fun h hc => ⟨_, hc.1, congrArg (fun z => some (vi z)) (show ((mfl σ 45 ((σ.1 45) - 1)).1 45) = ((σ.1 45) - 1) by simp [mfl, mar, upF])⟩) ?_
          refine C_iald (v := vi (mat (σ.2 46) ((σ.1 45) - 1))) dX7_comes_44 (by omega) (by omega) (fun h hc => (hc.rd46 hw17 (by omega) (by omega)).imp (fun vs q => ⟨q.1, q.2.trans (congrArg (fun z => some (vi (mat z ((σ.1 45) - 1)))) (show (mfl σ 45 ((σ.1 45) - 1)).2 46 = σ.2 46 by simp [mfl, mar, upF]))⟩)) ?_
          have e_44 := hw.a46 ((σ.1 45) - 1)
          refine C_put (σ' := (mfl (mfl σ 45 ((σ.1 45) - 1)) 43 (mat (σ.2 46) ((σ.1 45) - 1)))) dX7_comes_45 f_X7_218 jfit_i mown_0 (fun h hc => hc.pf43) ?_
          have hw18 : wfm (mfl (mfl σ 45 ((σ.1 45) - 1)) 43 (mat (σ.2 46) ((σ.1 45) - 1))) := wfm_f (k := 43) hw17 (show (-1 : Int) ≤ (mat (σ.2 46) ((σ.1 45) - 1)) ∧ (mat (σ.2 46) ((σ.1 45) - 1)) ≤ 23 by omega)
          refine C_aload_n dX7_comes_48 rfl ?_
          refine C_aload_n dX7_comes_49 rfl ?_
          refine C_get (v := .ref 143) dX7_comes_50 f_X7_93 (fun h hc => ⟨_, hc.1, rfl⟩) ?_
          refine C_aload_n dX7_comes_53 rfl ?_
          refine C_get (v := vi ((σ.1 45) - 1)) dX7_comes_54 f_X7_215 (fun h hc => ⟨_, hc.1, congrArg (fun z => some (vi z)) (show ((mfl (mfl σ 45 ((σ.1 45) - 1)) 43 (mat (σ.2 46) ((σ.1 45) - 1))).1 45) = ((σ.1 45) - 1) by simp [mfl, mar, upF])⟩) ?_
          refine C_iald (v := vi (mat (σ.2 47) ((σ.1 45) - 1))) dX7_comes_57 (by omega) (by omega) (fun h hc => (hc.rd47 hw18 (by omega) (by omega)).imp (fun vs q => ⟨q.1, q.2.trans (congrArg (fun z => some (vi (mat z ((σ.1 45) - 1)))) (show (mfl (mfl σ 45 ((σ.1 45) - 1)) 43 (mat (σ.2 46) ((σ.1 45) - 1))).2 47 = σ.2 47 by simp [mfl, mar, upF]))⟩)) ?_
          have e_57 := hw.a47 ((σ.1 45) - 1)
          refine C_put (σ' := (mfl (mfl (mfl σ 45 ((σ.1 45) - 1)) 43 (mat (σ.2 46) ((σ.1 45) - 1))) 44 (mat (σ.2 47) ((σ.1 45) - 1)))) dX7_comes_58 f_X7_221 jfit_i mown_0 (fun h hc => hc.pf44) ?_
          have hw19 : wfm (mfl (mfl (mfl σ 45 ((σ.1 45) - 1)) 43 (mat (σ.2 46) ((σ.1 45) - 1))) 44 (mat (σ.2 47) ((σ.1 45) - 1))) := wfm_f (k := 44) hw18 (show (0 : Int) ≤ (mat (σ.2 47) ((σ.1 45) - 1)) ∧ (mat (σ.2 47) ((σ.1 45) - 1)) ≤ 99 by omega)
          refine C_goto (tgt := 215) dX7_comes_61 (by decide) ?_
          refine C_iinc dX7_comes_215 rfl (by decide) rfl ?_
          simp only [List.set_cons_zero, List.set_cons_succ]
          refine C_goto (tgt := 2) dX7_comes_218 (by decide) ?_
          rw [c_mcomesL, if_neg (by omega), if_neg (by omega), if_neg (by omega)]
          refine CJ.mono (ls' := [some (.ref 116), some (vi t), some (vi v), some (vi (n + 1)), none]) (lsub_ok (by repeat (first | exact trivial | refine ⟨rfl, ?_⟩))) (fun _ _ q => q) ?_
          exact ih hw19 (by omega) (by first | exact hq | exact mH_pop hq (by omega) | exact mH_go hw hq) (by omega)
        · refine C_iconst dX7_comes_23 ?_
          refine C_iret dX7_comes_24 rfl ?_
          unfold det; rw [c_mcomesL, if_neg (by omega), if_neg (by omega), if_pos (by omega)]; exact ⟨rfl, rfl⟩
theorem t_mcomes {l : Launch} {G : jG} {d : Nat} {σ : mS} {t : Int} {v : Int} (hw : wfm σ) (hd : 2 ≤ d) (ht : 0 ≤ t ∧ t ≤ 3) (hv : 0 ≤ v ∧ v ≤ 16777215) (hq : mH σ t) : CJ jMod mown l G (Yx mX7_comes) d 0 0 0 [some (.ref 116), some (vi t), some (vi v), none, none] [] σ (det (some (vi (c_mcomes σ t v).1)) (c_mcomes σ t v).2) := by
  have hq1 := hq.1
  refine C_iconst dX7_comes_0 ?_
  refine C_istore_n dX7_comes_1 (by decide) rfl ?_
  simp only [List.set_cons_zero, List.set_cons_succ, jfin0, jfin1, jfin2, jfin3]
  rw [c_mcomes]
  refine CJ.mono (ls' := [some (.ref 116), some (vi t), some (vi v), some (vi 0), none]) (lsub_ok (by repeat (first | exact trivial | refine ⟨rfl, ?_⟩))) (fun _ _ q => q) ?_
  exact t_mcomesL hw hd ht hv (201) (by omega) (by first | exact hq | exact mH_pop hq (by omega) | exact mH_go hw hq) (by omega)
theorem r_mcomesL {σ : mS} {t : Int} {v : Int} {n : Int} (hw : wfm σ) (ht : 0 ≤ t ∧ t ≤ 3) (hv : 0 ≤ v ∧ v ≤ 16777215) (fu : Nat) (hn : 0 ≤ n ∧ n ≤ 200) (hq : mH σ t) : 0 ≤ (c_mcomesL t v fu n σ).1 ∧ (c_mcomesL t v fu n σ).1 < 7 := by
  induction fu generalizing σ n with
  | zero => unfold c_mcomesL; omega
  | succ fu ih =>
    have hq1 := hq.1
    have hq2 := hq.2.1
    unfold c_mcomesL
    split
    · omega
    · split
      · split
        · split
          · have g_10 := hw.f43
            have g_69 := hw.f43
            have g_78 := hw.f43
            have r_81 := r_mbegins (t := t) (k := (σ.1 43)) hw (by omega) (by omega)
            have g_89 := hw.f44
            have e_98 := hw.a6 ((24 * t) + (σ.1 43))
            omega
          · split
            · have g_10 := hw.f43
              have g_69 := hw.f43
              have g_78 := hw.f43
              have r_81 := r_mbegins (t := t) (k := (σ.1 43)) hw (by omega) (by omega)
              have g_89 := hw.f44
              have e_98 := hw.a6 ((24 * t) + (σ.1 43))
              have g_107 := hw.f44
              have hw9 : wfm (mfl σ 44 ((σ.1 44) + 1)) := wfm_f (k := 44) hw (show (0 : Int) ≤ ((σ.1 44) + 1) ∧ ((σ.1 44) + 1) ≤ 99 by omega)
              have e_121 := hw.a4 ((24 * t) + (σ.1 43))
              have g_130 := hw.f45
              have g_134 := hw.f43
              have hw11 : wfm (mar (mfl σ 44 ((σ.1 44) + 1)) 46 (σ.1 45) (σ.1 43)) := wfm_a (k := 46) hw9 (show (0 : Int) ≤ (σ.1 43) ∧ (σ.1 43) ≤ 23 by omega)
              have g_143 := hw.f45
              have hw12 : wfm (mar (mar (mfl σ 44 ((σ.1 44) + 1)) 46 (σ.1 45) (σ.1 43)) 47 (σ.1 45) ((σ.1 44) + 1)) := wfm_a (k := 47) hw11 (show (0 : Int) ≤ ((σ.1 44) + 1) ∧ ((σ.1 44) + 1) ≤ 99 by omega)
              have g_153 := hw.f45
              have hw13 : wfm (mfl (mar (mar (mfl σ 44 ((σ.1 44) + 1)) 46 (σ.1 45) (σ.1 43)) 47 (σ.1 45) ((σ.1 44) + 1)) 45 ((σ.1 45) + 1)) := wfm_f (k := 45) hw12 (show (0 : Int) ≤ ((σ.1 45) + 1) ∧ ((σ.1 45) + 1) ≤ 4 by omega)
              have g_168 := hw.f43
              have r_171 := r_mfollowing (t := t) (k := (-1)) (g := (σ.1 43)) hw13 (by omega) (by omega) (by omega)
              have g_175 := hw.f43
              have r_178 := r_mfollowing (t := t) (k := (c_mfollowing (mfl (mar (mar (mfl σ 44 ((σ.1 44) + 1)) 46 (σ.1 45) (σ.1 43)) 47 (σ.1 45) ((σ.1 44) + 1)) 45 ((σ.1 45) + 1)) t (-1) (σ.1 43))) (g := (σ.1 43)) hw13 (by omega) (by omega) (by omega)
              have hw14 : wfm (mfl (mfl (mar (mar (mfl σ 44 ((σ.1 44) + 1)) 46 (σ.1 45) (σ.1 43)) 47 (σ.1 45) ((σ.1 44) + 1)) 45 ((σ.1 45) + 1)) 43 (c_mfollowing (mfl (mar (mar (mfl σ 44 ((σ.1 44) + 1)) 46 (σ.1 45) (σ.1 43)) 47 (σ.1 45) ((σ.1 44) + 1)) 45 ((σ.1 45) + 1)) t (c_mfollowing (mfl (mar (mar (mfl σ 44 ((σ.1 44) + 1)) 46 (σ.1 45) (σ.1 43)) 47 (σ.1 45) ((σ.1 44) + 1)) 45 ((σ.1 45) + 1)) t (-1) (σ.1 43)) (σ.1 43))) := wfm_f (k := 43) hw13 (show (-1 : Int) ≤ (c_mfollowing (mfl (mar (mar (mfl σ 44 ((σ.1 44) + 1)) 46 (σ.1 45) (σ.1 43)) 47 (σ.1 45) ((σ.1 44) + 1)) 45 ((σ.1 45) + 1)) t (c_mfollowing (mfl (mar (mar (mfl σ 44 ((σ.1 44) + 1)) 46 (σ.1 45) (σ.1 43)) 47 (σ.1 45) ((σ.1 44) + 1)) 45 ((σ.1 45) + 1)) t (-1) (σ.1 43)) (σ.1 43)) ∧ (c_mfollowing (mfl (mar (mar (mfl σ 44 ((σ.1 44) + 1)) 46 (σ.1 45) (σ.1 43)) 47 (σ.1 45) ((σ.1 44) + 1)) 45 ((σ.1 45) + 1)) t (c_mfollowing (mfl (mar (mar (mfl σ 44 ((σ.1 44) + 1)) 46 (σ.1 45) (σ.1 43)) 47 (σ.1 45) ((σ.1 44) + 1)) 45 ((σ.1 45) + 1)) t (-1) (σ.1 43)) (σ.1 43)) ≤ 23 by omega)
              have hw15 : wfm (mfl (mfl (mfl (mar (mar (mfl σ 44 ((σ.1 44) + 1)) 46 (σ.1 45) (σ.1 43)) 47 (σ.1 45) ((σ.1 44) + 1)) 45 ((σ.1 45) + 1)) 43 (c_mfollowing (mfl (mar (mar (mfl σ 44 ((σ.1 44) + 1)) 46 (σ.1 45) (σ.1 43)) 47 (σ.1 45) ((σ.1 44) + 1)) 45 ((σ.1 45) + 1)) t (c_mfollowing (mfl (mar (mar (mfl σ 44 ((σ.1 44) + 1)) 46 (σ.1 45) (σ.1 43)) 47 (σ.1 45) ((σ.1 44) + 1)) 45 ((σ.1 45) + 1)) t (-1) (σ.1 43)) (σ.1 43))) 44 0) := wfm_f (k := 44) hw14 (show (0 : Int) ≤ 0 ∧ 0 ≤ 99 by omega)
              omega
            · have g_10 := hw.f43
              have g_69 := hw.f43
              have g_78 := hw.f43
              have r_81 := r_mbegins (t := t) (k := (σ.1 43)) hw (by omega) (by omega)
              have g_89 := hw.f44
              have e_98 := hw.a6 ((24 * t) + (σ.1 43))
              have g_107 := hw.f44
              have hw9 : wfm (mfl σ 44 ((σ.1 44) + 1)) := wfm_f (k := 44) hw (show (0 : Int) ≤ ((σ.1 44) + 1) ∧ ((σ.1 44) + 1) ≤ 99 by omega)
              have e_121 := hw.a4 ((24 * t) + (σ.1 43))
              omega
        · split
          · have g_10 := hw.f43
            have g_69 := hw.f43
            have g_78 := hw.f43
            have r_81 := r_mbegins (t := t) (k := (σ.1 43)) hw (by omega) (by omega)
            have e_197 := hw.a5 ((24 * t) + (σ.1 43))
            have hw5 : wfm (c_mgoOn σ t) := w_mgoOn hw (by omega)
            exact ih hw5 (by omega) (by first | exact hq | exact mH_pop hq (by omega) | exact mH_go hw hq)
          · split
            · have g_10 := hw.f43
              have g_69 := hw.f43
              have g_78 := hw.f43
              have r_81 := r_mbegins (t := t) (k := (σ.1 43)) hw (by omega) (by omega)
              have e_197 := hw.a5 ((24 * t) + (σ.1 43))
              have g_202 := hw.f44
              omega
            · have g_10 := hw.f43
              have g_69 := hw.f43
              have g_78 := hw.f43
              have r_81 := r_mbegins (t := t) (k := (σ.1 43)) hw (by omega) (by omega)
              have e_197 := hw.a5 ((24 * t) + (σ.1 43))
              have g_202 := hw.f44
              have hw7 : wfm (c_mgoOn σ t) := w_mgoOn hw (by omega)
              exact ih hw7 (by omega) (by first | exact hq | exact mH_pop hq (by omega) | exact mH_go hw hq)
      · split
        · have g_10 := hw.f43
          have g_17 := hw.f45
          omega
        · have g_10 := hw.f43
          have g_17 := hw.f45
          have g_27 := hw.f45
          have hw17 : wfm (mfl σ 45 ((σ.1 45) - 1)) := wfm_f (k := 45) hw (show (0 : Int) ≤ ((σ.1 45) - 1) ∧ ((σ.1 45) - 1) ≤ 4 by omega)
          have e_44 := hw.a46 ((σ.1 45) - 1)
          have hw18 : wfm (mfl (mfl σ 45 ((σ.1 45) - 1)) 43 (mat (σ.2 46) ((σ.1 45) - 1))) := wfm_f (k := 43) hw17 (show (-1 : Int) ≤ (mat (σ.2 46) ((σ.1 45) - 1)) ∧ (mat (σ.2 46) ((σ.1 45) - 1)) ≤ 23 by omega)
          have e_57 := hw.a47 ((σ.1 45) - 1)
          have hw19 : wfm (mfl (mfl (mfl σ 45 ((σ.1 45) - 1)) 43 (mat (σ.2 46) ((σ.1 45) - 1))) 44 (mat (σ.2 47) ((σ.1 45) - 1))) := wfm_f (k := 44) hw18 (show (0 : Int) ≤ (mat (σ.2 47) ((σ.1 45) - 1)) ∧ (mat (σ.2 47) ((σ.1 45) - 1)) ≤ 99 by omega)
          exact ih hw19 (by omega) (by first | exact hq | exact mH_pop hq (by omega) | exact mH_go hw hq)
theorem r_mcomes {σ : mS} {t : Int} {v : Int} (hw : wfm σ) (ht : 0 ≤ t ∧ t ≤ 3) (hv : 0 ≤ v ∧ v ≤ 16777215) (hq : mH σ t) : 0 ≤ (c_mcomes σ t v).1 ∧ (c_mcomes σ t v).1 < 7 := by
  have hq1 := hq.1
  unfold c_mcomes
  exact r_mcomesL hw ht hv (201) (by omega) (by first | exact hq | exact mH_pop hq (by omega) | exact mH_go hw hq)
theorem w_mcomesL {σ : mS} {t : Int} {v : Int} {n : Int} (hw : wfm σ) (ht : 0 ≤ t ∧ t ≤ 3) (hv : 0 ≤ v ∧ v ≤ 16777215) (fu : Nat) (hn : 0 ≤ n ∧ n ≤ 200) (hq : mH σ t) : wfm (c_mcomesL t v fu n σ).2 := by
  induction fu generalizing σ n with
  | zero => exact hw
  | succ fu ih =>
    have hq1 := hq.1
    have hq2 := hq.2.1
    unfold c_mcomesL
    split
    · exact hw
    · split
      · split
        · split
          · have g_10 := hw.f43
            have g_69 := hw.f43
            have g_78 := hw.f43
            have r_81 := r_mbegins (t := t) (k := (σ.1 43)) hw (by omega) (by omega)
            have g_89 := hw.f44
            have e_98 := hw.a6 ((24 * t) + (σ.1 43))
            exact hw
          · split
            · have g_10 := hw.f43
              have g_69 := hw.f43
              have g_78 := hw.f43
              have r_81 := r_mbegins (t := t) (k := (σ.1 43)) hw (by omega) (by omega)
              have g_89 := hw.f44
              have e_98 := hw.a6 ((24 * t) + (σ.1 43))
              have g_107 := hw.f44
              have hw9 : wfm (mfl σ 44 ((σ.1 44) + 1)) := wfm_f (k := 44) hw (show (0 : Int) ≤ ((σ.1 44) + 1) ∧ ((σ.1 44) + 1) ≤ 99 by omega)
              have e_121 := hw.a4 ((24 * t) + (σ.1 43))
              have g_130 := hw.f45
              have g_134 := hw.f43
              have hw11 : wfm (mar (mfl σ 44 ((σ.1 44) + 1)) 46 (σ.1 45) (σ.1 43)) := wfm_a (k := 46) hw9 (show (0 : Int) ≤ (σ.1 43) ∧ (σ.1 43) ≤ 23 by omega)
              have g_143 := hw.f45
              have hw12 : wfm (mar (mar (mfl σ 44 ((σ.1 44) + 1)) 46 (σ.1 45) (σ.1 43)) 47 (σ.1 45) ((σ.1 44) + 1)) := wfm_a (k := 47) hw11 (show (0 : Int) ≤ ((σ.1 44) + 1) ∧ ((σ.1 44) + 1) ≤ 99 by omega)
              have g_153 := hw.f45
              have hw13 : wfm (mfl (mar (mar (mfl σ 44 ((σ.1 44) + 1)) 46 (σ.1 45) (σ.1 43)) 47 (σ.1 45) ((σ.1 44) + 1)) 45 ((σ.1 45) + 1)) := wfm_f (k := 45) hw12 (show (0 : Int) ≤ ((σ.1 45) + 1) ∧ ((σ.1 45) + 1) ≤ 4 by omega)
              have g_168 := hw.f43
              have r_171 := r_mfollowing (t := t) (k := (-1)) (g := (σ.1 43)) hw13 (by omega) (by omega) (by omega)
              have g_175 := hw.f43
              have r_178 := r_mfollowing (t := t) (k := (c_mfollowing (mfl (mar (mar (mfl σ 44 ((σ.1 44) + 1)) 46 (σ.1 45) (σ.1 43)) 47 (σ.1 45) ((σ.1 44) + 1)) 45 ((σ.1 45) + 1)) t (-1) (σ.1 43))) (g := (σ.1 43)) hw13 (by omega) (by omega) (by omega)
              have hw14 : wfm (mfl (mfl (mar (mar (mfl σ 44 ((σ.1 44) + 1)) 46 (σ.1 45) (σ.1 43)) 47 (σ.1 45) ((σ.1 44) + 1)) 45 ((σ.1 45) + 1)) 43 (c_mfollowing (mfl (mar (mar (mfl σ 44 ((σ.1 44) + 1)) 46 (σ.1 45) (σ.1 43)) 47 (σ.1 45) ((σ.1 44) + 1)) 45 ((σ.1 45) + 1)) t (c_mfollowing (mfl (mar (mar (mfl σ 44 ((σ.1 44) + 1)) 46 (σ.1 45) (σ.1 43)) 47 (σ.1 45) ((σ.1 44) + 1)) 45 ((σ.1 45) + 1)) t (-1) (σ.1 43)) (σ.1 43))) := wfm_f (k := 43) hw13 (show (-1 : Int) ≤ (c_mfollowing (mfl (mar (mar (mfl σ 44 ((σ.1 44) + 1)) 46 (σ.1 45) (σ.1 43)) 47 (σ.1 45) ((σ.1 44) + 1)) 45 ((σ.1 45) + 1)) t (c_mfollowing (mfl (mar (mar (mfl σ 44 ((σ.1 44) + 1)) 46 (σ.1 45) (σ.1 43)) 47 (σ.1 45) ((σ.1 44) + 1)) 45 ((σ.1 45) + 1)) t (-1) (σ.1 43)) (σ.1 43)) ∧ (c_mfollowing (mfl (mar (mar (mfl σ 44 ((σ.1 44) + 1)) 46 (σ.1 45) (σ.1 43)) 47 (σ.1 45) ((σ.1 44) + 1)) 45 ((σ.1 45) + 1)) t (c_mfollowing (mfl (mar (mar (mfl σ 44 ((σ.1 44) + 1)) 46 (σ.1 45) (σ.1 43)) 47 (σ.1 45) ((σ.1 44) + 1)) 45 ((σ.1 45) + 1)) t (-1) (σ.1 43)) (σ.1 43)) ≤ 23 by omega)
              have hw15 : wfm (mfl (mfl (mfl (mar (mar (mfl σ 44 ((σ.1 44) + 1)) 46 (σ.1 45) (σ.1 43)) 47 (σ.1 45) ((σ.1 44) + 1)) 45 ((σ.1 45) + 1)) 43 (c_mfollowing (mfl (mar (mar (mfl σ 44 ((σ.1 44) + 1)) 46 (σ.1 45) (σ.1 43)) 47 (σ.1 45) ((σ.1 44) + 1)) 45 ((σ.1 45) + 1)) t (c_mfollowing (mfl (mar (mar (mfl σ 44 ((σ.1 44) + 1)) 46 (σ.1 45) (σ.1 43)) 47 (σ.1 45) ((σ.1 44) + 1)) 45 ((σ.1 45) + 1)) t (-1) (σ.1 43)) (σ.1 43))) 44 0) := wfm_f (k := 44) hw14 (show (0 : Int) ≤ 0 ∧ 0 ≤ 99 by omega)
              exact hw15
            · have g_10 := hw.f43
              have g_69 := hw.f43
              have g_78 := hw.f43
              have r_81 := r_mbegins (t := t) (k := (σ.1 43)) hw (by omega) (by omega)
              have g_89 := hw.f44
              have e_98 := hw.a6 ((24 * t) + (σ.1 43))
              have g_107 := hw.f44
              have hw9 : wfm (mfl σ 44 ((σ.1 44) + 1)) := wfm_f (k := 44) hw (show (0 : Int) ≤ ((σ.1 44) + 1) ∧ ((σ.1 44) + 1) ≤ 99 by omega)
              have e_121 := hw.a4 ((24 * t) + (σ.1 43))
              exact hw9
        · split
          · have g_10 := hw.f43
            have g_69 := hw.f43
            have g_78 := hw.f43
            have r_81 := r_mbegins (t := t) (k := (σ.1 43)) hw (by omega) (by omega)
            have e_197 := hw.a5 ((24 * t) + (σ.1 43))
            have hw5 : wfm (c_mgoOn σ t) := w_mgoOn hw (by omega)
            exact ih hw5 (by omega) (by first | exact hq | exact mH_pop hq (by omega) | exact mH_go hw hq)
          · split
            · have g_10 := hw.f43
              have g_69 := hw.f43
              have g_78 := hw.f43
              have r_81 := r_mbegins (t := t) (k := (σ.1 43)) hw (by omega) (by omega)
              have e_197 := hw.a5 ((24 * t) + (σ.1 43))
              have g_202 := hw.f44
              exact hw
            · have g_10 := hw.f43
              have g_69 := hw.f43
              have g_78 := hw.f43
              have r_81 := r_mbegins (t := t) (k := (σ.1 43)) hw (by omega) (by omega)
              have e_197 := hw.a5 ((24 * t) + (σ.1 43))
              have g_202 := hw.f44
              have hw7 : wfm (c_mgoOn σ t) := w_mgoOn hw (by omega)
              exact ih hw7 (by omega) (by first | exact hq | exact mH_pop hq (by omega) | exact mH_go hw hq)
      · split
        · have g_10 := hw.f43
          have g_17 := hw.f45
          exact hw
        · have g_10 := hw.f43
          have g_17 := hw.f45
          have g_27 := hw.f45
          have hw17 : wfm (mfl σ 45 ((σ.1 45) - 1)) := wfm_f (k := 45) hw (show (0 : Int) ≤ ((σ.1 45) - 1) ∧ ((σ.1 45) - 1) ≤ 4 by omega)
          have e_44 := hw.a46 ((σ.1 45) - 1)
          have hw18 : wfm (mfl (mfl σ 45 ((σ.1 45) - 1)) 43 (mat (σ.2 46) ((σ.1 45) - 1))) := wfm_f (k := 43) hw17 (show (-1 : Int) ≤ (mat (σ.2 46) ((σ.1 45) - 1)) ∧ (mat (σ.2 46) ((σ.1 45) - 1)) ≤ 23 by omega)
          have e_57 := hw.a47 ((σ.1 45) - 1)
          have hw19 : wfm (mfl (mfl (mfl σ 45 ((σ.1 45) - 1)) 43 (mat (σ.2 46) ((σ.1 45) - 1))) 44 (mat (σ.2 47) ((σ.1 45) - 1))) := wfm_f (k := 44) hw18 (show (0 : Int) ≤ (mat (σ.2 47) ((σ.1 45) - 1)) ∧ (mat (σ.2 47) ((σ.1 45) - 1)) ≤ 99 by omega)
          exact ih hw19 (by omega) (by first | exact hq | exact mH_pop hq (by omega) | exact mH_go hw hq)
theorem w_mcomes {σ : mS} {t : Int} {v : Int} (hw : wfm σ) (ht : 0 ≤ t ∧ t ≤ 3) (hv : 0 ≤ v ∧ v ≤ 16777215) (hq : mH σ t) : wfm (c_mcomes σ t v).2 := by
  have hq1 := hq.1
  unfold c_mcomes
  exact w_mcomesL hw ht hv (201) (by omega) (by first | exact hq | exact mH_pop hq (by omega) | exact mH_go hw hq)
def c_mlacksL (t : Int) : Nat → Int → Int → mS → Bool × mS
  | 0, _, _, σ => (false, σ)
  | fu + 1, q, n, σ => (if 200 ≤ n then ((decide (q = 1)), σ) else (if 0 ≤ (σ.1 43) then (if q = 0 then (if (mat (σ.2 5) ((24 * t) + (σ.1 43))) = 0 then (c_mlacksL t fu 0 (n + 1) (c_mgoOn σ t)) else (if (σ.1 44) = 0 then (c_mlacksL t fu 1 (n + 1) (c_mgoOn σ t)) else (c_mlacksL t fu 0 (n + 1) (c_mgoOn σ t)))) else (c_mlacksL t fu 1 (n + 1) (c_mgoOn σ t))) else (if (σ.1 45) = 0 then ((decide (q = 1)), σ) else (c_mlacksL t fu q (n + 1) (mfl (mfl (mfl σ 45 ((σ.1 45) - 1)) 43 (mat (σ.2 46) ((σ.1 45) - 1))) 44 (mat (σ.2 47) ((σ.1 45) - 1)))))))
def c_mlacks (σ : mS) (t : Int) : Bool × mS := (c_mlacksL t (201) 0 0 σ)
theorem t_mlacksL {l : Launch} {G : jG} {d : Nat} {σ : mS} {t : Int} {q n : Int} (hw : wfm σ) (hd : 2 ≤ d) (ht : 0 ≤ t ∧ t ≤ 3) (fu : Nat) (hq : 0 ≤ q ∧ q ≤ 1) (hn : 0 ≤ n ∧ n ≤ 200) (hq : mH σ t) (hm : 200 - n < (fu : Int)) : CJ jMod mown l G (Yx mX7_lacks) d 0 0 4 [some (.ref 116), some (vi t), some (vi q), some (vi n)] [] σ (det (some (vi (bz (c_mlacksL t fu q n σ).1))) (c_mlacksL t fu q n σ).2) := by
  induction fu generalizing σ q n with
  | zero => have hq1 := hq.1; have hq2 := hq.2.1; exact absurd hm (by omega)
  | succ fu ih =>
    have hq1 := hq.1
    have hq2 := hq.2.1
    refine C_iload_n dX7_lacks_4 rfl ?_
    refine C_sipush dX7_lacks_5 (by decide) ?_
    refine C_icmp_ge (tgt := 111) dX7_lacks_8 (by decide) (by omega) (by omega) (fun c_8 => ?_) (fun c_8 => ?_)
    · refine C_iload_n dX7_lacks_111 rfl ?_
      refine C_zretB dX7_lacks_112 rfl (by omega) ?_
      unfold det; rw [c_mlacksL, if_pos (by omega)]; exact ⟨rfl, rfl⟩
    · refine C_aload_n dX7_lacks_11 rfl ?_
      refine C_get (v := vi (σ.1 43)) dX7_lacks_12 f_X7_218 (fun h hc => ⟨_, hc.1, rfl⟩) ?_
      have g_12 := hw.f43
      refine C_if_ge (tgt := 66) dX7_lacks_15 (by decide) (by omega) (fun c_15 => ?_) (fun c_15 => ?_)
      · refine C_iload_n dX7_lacks_66 rfl ?_
        refine C_if_ne (tgt := 94) dX7_lacks_67 (by decide) (by omega) (fun c_67 => ?_) (fun c_67 => ?_)
        · refine C_iconst dX7_lacks_94 ?_
          refine C_goto (tgt := 99) dX7_lacks_95 (by decide) ?_
          refine C_istore_n dX7_lacks_99 (by decide) rfl ?_
          simp only [List.set_cons_zero, List.set_cons_succ, jfin0, jfin1, jfin2, jfin3]
          refine C_aload_n dX7_lacks_100 rfl ?_
          refine C_iload_n dX7_lacks_101 rfl ?_
          refine D_callV (As := [vi _]) (d' := 1) (t_mgoOn hw (Nat.le_refl _) (by omega)) dX7_lacks_102 v_X7_227 (fun h hc => ⟨_, hc.1⟩) rfl (Nat.le_of_ble_eq_true rfl) (by omega) (Nat.le_of_ble_eq_true rfl) ?_
          simp only [Option.toList, List.nil_append, List.cons_append]
          have hw4 : wfm (c_mgoOn σ t) := w_mgoOn hw (by omega)
          refine C_iinc dX7_lacks_105 rfl (by decide) rfl ?_
          simp only [List.set_cons_zero, List.set_cons_succ]
          refine C_goto (tgt := 4) dX7_lacks_108 (by decide) ?_
          rw [c_mlacksL, if_neg (by omega), if_pos (by omega), if_neg (by omega)]
          refine CJ.mono (ls' := [some (.ref 116), some (vi t), some (vi 1), some (vi (n + 1))]) (lsub_ok (by repeat (first | exact trivial | refine ⟨rfl, ?_⟩))) (fun _ _ q => q) ?_
          exact ih hw4 (by omega) (by omega) (by first | exact hq | exact mH_pop hq (by omega) | exact mH_go hw hq) (by omega)
        · refine C_aload_n dX7_lacks_70 rfl ?_
          refine C_get (v := .ref 120) dX7_lacks_71 f_X7_19 (fun h hc => ⟨_, hc.1, rfl⟩) ?_
          refine C_bipush dX7_lacks_74 (by decide) ?_
          refine C_iload_n dX7_lacks_76 rfl ?_
          refine C_imul dX7_lacks_77 ?_
          refine C_aload_n dX7_lacks_78 rfl ?_
          refine C_get (v := vi (σ.1 43)) dX7_lacks_79 f_X7_218 (fun h hc => ⟨_, hc.1, rfl⟩) ?_
          have g_79 := hw.f43
          refine C_iadd dX7_lacks_82 ?_
          refine C_zald (v := vi (mat (σ.2 5) ((24 * t) + (σ.1 43)))) dX7_lacks_83 (by omega) (by omega) (fun h hc => hc.rd5 hw (by omega) (by omega)) ?_
          have e_83 := hw.a5 ((24 * t) + (σ.1 43))
          refine C_if_eq (tgt := 98) dX7_lacks_84 (by decide) (by omega) (fun c_84 => ?_) (fun c_84 => ?_)
          · refine C_iconst dX7_lacks_98 ?_
            refine C_istore_n dX7_lacks_99 (by decide) rfl ?_
            simp only [List.set_cons_zero, List.set_cons_succ, jfin0, jfin1, jfin2, jfin3]
            refine C_aload_n dX7_lacks_100 rfl ?_
            refine C_iload_n dX7_lacks_101 rfl ?_
            refine D_callV (As := [vi _]) (d' := 1) (t_mgoOn hw (Nat.le_refl _) (by omega)) dX7_lacks_102 v_X7_227 (fun h hc => ⟨_, hc.1⟩) rfl (Nat.le_of_ble_eq_true rfl) (by omega) (Nat.le_of_ble_eq_true rfl) ?_
            simp only [Option.toList, List.nil_append, List.cons_append]
            have hw6 : wfm (c_mgoOn σ t) := w_mgoOn hw (by omega)
            refine C_iinc dX7_lacks_105 rfl (by decide) rfl ?_
            simp only [List.set_cons_zero, List.set_cons_succ]
            refine C_goto (tgt := 4) dX7_lacks_108 (by decide) ?_
            rw [c_mlacksL, if_neg (by omega), if_pos (by omega), if_pos (by omega), if_pos (by omega)]
            refine CJ.mono (ls' := [some (.ref 116), some (vi t), some (vi 0), some (vi (n + 1))]) (lsub_ok (by repeat (first | exact trivial | refine ⟨rfl, ?_⟩))) (fun _ _ q => q) ?_
            exact ih hw6 (by omega) (by omega) (by first | exact hq | exact mH_pop hq (by omega) | exact mH_go hw hq) (by omega)
          · refine C_aload_n dX7_lacks_87 rfl ?_
            refine C_get (v := vi (σ.1 44)) dX7_lacks_88 f_X7_221 (fun h hc => ⟨_, hc.1, rfl⟩) ?_
            have g_88 := hw.f44
            refine C_if_ne (tgt := 98) dX7_lacks_91 (by decide) (by omega) (fun c_91 => ?_) (fun c_91 => ?_)
            · refine C_iconst dX7_lacks_98 ?_
              refine C_istore_n dX7_lacks_99 (by decide) rfl ?_
              simp only [List.set_cons_zero, List.set_cons_succ, jfin0, jfin1, jfin2, jfin3]
              refine C_aload_n dX7_lacks_100 rfl ?_
              refine C_iload_n dX7_lacks_101 rfl ?_
              refine D_callV (As := [vi _]) (d' := 1) (t_mgoOn hw (Nat.le_refl _) (by omega)) dX7_lacks_102 v_X7_227 (fun h hc => ⟨_, hc.1⟩) rfl (Nat.le_of_ble_eq_true rfl) (by omega) (Nat.le_of_ble_eq_true rfl) ?_
              simp only [Option.toList, List.nil_append, List.cons_append]
              have hw8 : wfm (c_mgoOn σ t) := w_mgoOn hw (by omega)
              refine C_iinc dX7_lacks_105 rfl (by decide) rfl ?_
              simp only [List.set_cons_zero, List.set_cons_succ]
              refine C_goto (tgt := 4) dX7_lacks_108 (by decide) ?_
              rw [c_mlacksL, if_neg (by omega), if_pos (by omega), if_pos (by omega), if_neg (by omega), if_neg (by omega)]
              refine CJ.mono (ls' := [some (.ref 116), some (vi t), some (vi 0), some (vi (n + 1))]) (lsub_ok (by repeat (first | exact trivial | refine ⟨rfl, ?_⟩))) (fun _ _ q => q) ?_
              exact ih hw8 (by omega) (by omega) (by first | exact hq | exact mH_pop hq (by omega) | exact mH_go hw hq) (by omega)
            · refine C_iconst dX7_lacks_94 ?_
              refine C_goto (tgt := 99) dX7_lacks_95 (by decide) ?_
              refine C_istore_n dX7_lacks_99 (by decide) rfl ?_
              simp only [List.set_cons_zero, List.set_cons_succ, jfin0, jfin1, jfin2, jfin3]
              refine C_aload_n dX7_lacks_100 rfl ?_
              refine C_iload_n dX7_lacks_101 rfl ?_
              refine D_callV (As := [vi _]) (d' := 1) (t_mgoOn hw (Nat.le_refl _) (by omega)) dX7_lacks_102 v_X7_227 (fun h hc => ⟨_, hc.1⟩) rfl (Nat.le_of_ble_eq_true rfl) (by omega) (Nat.le_of_ble_eq_true rfl) ?_
              simp only [Option.toList, List.nil_append, List.cons_append]
              have hw9 : wfm (c_mgoOn σ t) := w_mgoOn hw (by omega)
              refine C_iinc dX7_lacks_105 rfl (by decide) rfl ?_
              simp only [List.set_cons_zero, List.set_cons_succ]
              refine C_goto (tgt := 4) dX7_lacks_108 (by decide) ?_
              rw [c_mlacksL, if_neg (by omega), if_pos (by omega), if_pos (by omega), if_neg (by omega), if_pos (by omega)]
              refine CJ.mono (ls' := [some (.ref 116), some (vi t), some (vi 1), some (vi (n + 1))]) (lsub_ok (by repeat (first | exact trivial | refine ⟨rfl, ?_⟩))) (fun _ _ q => q) ?_
              exact ih hw9 (by omega) (by omega) (by first | exact hq | exact mH_pop hq (by omega) | exact mH_go hw hq) (by omega)
      · refine C_aload_n dX7_lacks_18 rfl ?_
        refine C_get (v := vi (σ.1 45)) dX7_lacks_19 f_X7_215 (fun h hc => ⟨_, hc.1, rfl⟩) ?_
        have g_19 := hw.f45
        refine C_if_ne (tgt := 27) dX7_lacks_22 (by decide) (by omega) (fun c_22 => ?_) (fun c_22 => ?_)
        · refine C_aload_n dX7_lacks_27 rfl ?_
          refine C_dup dX7_lacks_28 rfl ?_
          refine C_get (v := vi (σ.1 45)) dX7_lacks_29 f_X7_215 (fun h hc => ⟨_, hc.1, rfl⟩) ?_
          have g_29 := hw.f45
          refine C_iconst dX7_lacks_32 ?_
          refine C_isub dX7_lacks_33 ?_
          refine C_put (σ' := (mfl σ 45 ((σ.1 45) - 1))) dX7_lacks_34 f_X7_215 jfit_i mown_0 (fun h hc => hc.pf45) ?_
          have hw11 : wfm (mfl σ 45 ((σ.1 45) - 1)) := wfm_f (k := 45) hw (show (0 : Int) ≤ ((σ.1 45) - 1) ∧ ((σ.1 45) - 1) ≤ 4 by omega)
          refine C_aload_n dX7_lacks_37 rfl ?_
          refine C_aload_n dX7_lacks_38 rfl ?_
          refine C_get (v := .ref 142) dX7_lacks_39 f_X7_90 (fun h hc => ⟨_, hc.1, rfl⟩) ?_
          refine C_aload_n dX7_lacks_42 rfl ?_
          refine C_get (v := vi ((σ.1 45) - 1)) dX7_lacks_43 f_X7_215 (fun h hc => ⟨_, hc.1, congrArg (fun z => some (vi z)) (show ((mfl σ 45 ((σ.1 45) - 1)).1 45) = ((σ.1 45) - 1) by simp [mfl, mar, upF])⟩) ?_
          refine C_iald (v := vi (mat (σ.2 46) ((σ.1 45) - 1))) dX7_lacks_46 (by omega) (by omega) (fun h hc => (hc.rd46 hw11 (by omega) (by omega)).imp (fun vs q => ⟨q.1, q.2.trans (congrArg (fun z => some (vi (mat z ((σ.1 45) - 1)))) (show (mfl σ 45 ((σ.1 45) - 1)).2 46 = σ.2 46 by simp [mfl, mar, upF]))⟩)) ?_
          have e_46 := hw.a46 ((σ.1 45) - 1)
          refine C_put (σ' := (mfl (mfl σ 45 ((σ.1 45) - 1)) 43 (mat (σ.2 46) ((σ.1 45) - 1)))) dX7_lacks_47 f_X7_218 jfit_i mown_0 (fun h hc => hc.pf43) ?_
          have hw12 : wfm (mfl (mfl σ 45 ((σ.1 45) - 1)) 43 (mat (σ.2 46) ((σ.1 45) - 1))) := wfm_f (k := 43) hw11 (show (-1 : Int) ≤ (mat (σ.2 46) ((σ.1 45) - 1)) ∧ (mat (σ.2 46) ((σ.1 45) - 1)) ≤ 23 by omega)
          refine C_aload_n dX7_lacks_50 rfl ?_
          refine C_aload_n dX7_lacks_51 rfl ?_
          refine C_get (v := .ref 143) dX7_lacks_52 f_X7_93 (fun h hc => ⟨_, hc.1, rfl⟩) ?_
          refine C_aload_n dX7_lacks_55 rfl ?_
          refine C_get (v := vi ((σ.1 45) - 1)) dX7_lacks_56 f_X7_215 (fun h hc => ⟨_, hc.1, congrArg (fun z => some (vi z)) (show ((mfl (mfl σ 45 ((σ.1 45) - 1)) 43 (mat (σ.2 46) ((σ.1 45) - 1))).1 45) = ((σ.1 45) - 1) by simp [mfl, mar, upF])⟩) ?_
          refine C_iald (v := vi (mat (σ.2 47) ((σ.1 45) - 1))) dX7_lacks_59 (by omega) (by omega) (fun h hc => (hc.rd47 hw12 (by omega) (by omega)).imp (fun vs q => ⟨q.1, q.2.trans (congrArg (fun z => some (vi (mat z ((σ.1 45) - 1)))) (show (mfl (mfl σ 45 ((σ.1 45) - 1)) 43 (mat (σ.2 46) ((σ.1 45) - 1))).2 47 = σ.2 47 by simp [mfl, mar, upF]))⟩)) ?_
          have e_59 := hw.a47 ((σ.1 45) - 1)
          refine C_put (σ' := (mfl (mfl (mfl σ 45 ((σ.1 45) - 1)) 43 (mat (σ.2 46) ((σ.1 45) - 1))) 44 (mat (σ.2 47) ((σ.1 45) - 1)))) dX7_lacks_60 f_X7_221 jfit_i mown_0 (fun h hc => hc.pf44) ?_
          have hw13 : wfm (mfl (mfl (mfl σ 45 ((σ.1 45) - 1)) 43 (mat (σ.2 46) ((σ.1 45) - 1))) 44 (mat (σ.2 47) ((σ.1 45) - 1))) := wfm_f (k := 44) hw12 (show (0 : Int) ≤ (mat (σ.2 47) ((σ.1 45) - 1)) ∧ (mat (σ.2 47) ((σ.1 45) - 1)) ≤ 99 by omega)
          refine C_goto (tgt := 105) dX7_lacks_63 (by decide) ?_
          refine C_iinc dX7_lacks_105 rfl (by decide) rfl ?_
          simp only [List.set_cons_zero, List.set_cons_succ]
          refine C_goto (tgt := 4) dX7_lacks_108 (by decide) ?_
          rw [c_mlacksL, if_neg (by omega), if_neg (by omega), if_neg (by omega)]
          refine CJ.mono (ls' := [some (.ref 116), some (vi t), some (vi q), some (vi (n + 1))]) (lsub_ok (by repeat (first | exact trivial | refine ⟨rfl, ?_⟩))) (fun _ _ q => q) ?_
          exact ih hw13 (by omega) (by omega) (by first | exact hq | exact mH_pop hq (by omega) | exact mH_go hw hq) (by omega)
        · refine C_iload_n dX7_lacks_25 rfl ?_
          refine C_zretB dX7_lacks_26 rfl (by omega) ?_
          unfold det; rw [c_mlacksL, if_neg (by omega), if_neg (by omega), if_pos (by omega)]; exact ⟨rfl, rfl⟩
theorem t_mlacks {l : Launch} {G : jG} {d : Nat} {σ : mS} {t : Int} (hw : wfm σ) (hd : 2 ≤ d) (ht : 0 ≤ t ∧ t ≤ 3) (hq : mH σ t) : CJ jMod mown l G (Yx mX7_lacks) d 0 0 0 [some (.ref 116), some (vi t), none, none] [] σ (det (some (vi (bz (c_mlacks σ t).1))) (c_mlacks σ t).2) := by
  have hq1 := hq.1
  refine C_iconst dX7_lacks_0 ?_
  refine C_istore_n dX7_lacks_1 (by decide) rfl ?_
  simp only [List.set_cons_zero, List.set_cons_succ, jfin0, jfin1, jfin2, jfin3]
  refine C_iconst dX7_lacks_2 ?_
  refine C_istore_n dX7_lacks_3 (by decide) rfl ?_
  simp only [List.set_cons_zero, List.set_cons_succ, jfin0, jfin1, jfin2, jfin3]
  rw [c_mlacks]
  refine CJ.mono (ls' := [some (.ref 116), some (vi t), some (vi 0), some (vi 0)]) (lsub_ok (by repeat (first | exact trivial | refine ⟨rfl, ?_⟩))) (fun _ _ q => q) ?_
  exact t_mlacksL hw hd ht (201) (by omega) (by omega) (by first | exact hq | exact mH_pop hq (by omega) | exact mH_go hw hq) (by omega)
theorem w_mlacksL {σ : mS} {t : Int} {q n : Int} (hw : wfm σ) (ht : 0 ≤ t ∧ t ≤ 3) (fu : Nat) (hq : 0 ≤ q ∧ q ≤ 1) (hn : 0 ≤ n ∧ n ≤ 200) (hq : mH σ t) : wfm (c_mlacksL t fu q n σ).2 := by
  induction fu generalizing σ q n with
  | zero => exact hw
  | succ fu ih =>
    have hq1 := hq.1
    have hq2 := hq.2.1
    unfold c_mlacksL
    split
    · exact hw
    · split
      · split
        · split
          · have g_12 := hw.f43
            have g_79 := hw.f43
            have e_83 := hw.a5 ((24 * t) + (σ.1 43))
            have hw6 : wfm (c_mgoOn σ t) := w_mgoOn hw (by omega)
            exact ih hw6 (by omega) (by omega) (by first | exact hq | exact mH_pop hq (by omega) | exact mH_go hw hq)
          · split
            · have g_12 := hw.f43
              have g_79 := hw.f43
              have e_83 := hw.a5 ((24 * t) + (σ.1 43))
              have g_88 := hw.f44
              have hw9 : wfm (c_mgoOn σ t) := w_mgoOn hw (by omega)
              exact ih hw9 (by omega) (by omega) (by first | exact hq | exact mH_pop hq (by omega) | exact mH_go hw hq)
            · have g_12 := hw.f43
              have g_79 := hw.f43
              have e_83 := hw.a5 ((24 * t) + (σ.1 43))
              have g_88 := hw.f44
              have hw8 : wfm (c_mgoOn σ t) := w_mgoOn hw (by omega)
              exact ih hw8 (by omega) (by omega) (by first | exact hq | exact mH_pop hq (by omega) | exact mH_go hw hq)
        · have g_12 := hw.f43
          have hw4 : wfm (c_mgoOn σ t) := w_mgoOn hw (by omega)
          exact ih hw4 (by omega) (by omega) (by first | exact hq | exact mH_pop hq (by omega) | exact mH_go hw hq)
      · split
        · have g_12 := hw.f43
          have g_19 := hw.f45
          exact hw
        · have g_12 := hw.f43
          have g_19 := hw.f45
          have g_29 := hw.f45
          have hw11 : wfm (mfl σ 45 ((σ.1 45) - 1)) := wfm_f (k := 45) hw (show (0 : Int) ≤ ((σ.1 45) - 1) ∧ ((σ.1 45) - 1) ≤ 4 by omega)
          have e_46 := hw.a46 ((σ.1 45) - 1)
          have hw12 : wfm (mfl (mfl σ 45 ((σ.1 45) - 1)) 43 (mat (σ.2 46) ((σ.1 45) - 1))) := wfm_f (k := 43) hw11 (show (-1 : Int) ≤ (mat (σ.2 46) ((σ.1 45) - 1)) ∧ (mat (σ.2 46) ((σ.1 45) - 1)) ≤ 23 by omega)
          have e_59 := hw.a47 ((σ.1 45) - 1)
          have hw13 : wfm (mfl (mfl (mfl σ 45 ((σ.1 45) - 1)) 43 (mat (σ.2 46) ((σ.1 45) - 1))) 44 (mat (σ.2 47) ((σ.1 45) - 1))) := wfm_f (k := 44) hw12 (show (0 : Int) ≤ (mat (σ.2 47) ((σ.1 45) - 1)) ∧ (mat (σ.2 47) ((σ.1 45) - 1)) ≤ 99 by omega)
          exact ih hw13 (by omega) (by omega) (by first | exact hq | exact mH_pop hq (by omega) | exact mH_go hw hq)
theorem w_mlacks {σ : mS} {t : Int} (hw : wfm σ) (ht : 0 ≤ t ∧ t ≤ 3) (hq : mH σ t) : wfm (c_mlacks σ t).2 := by
  have hq1 := hq.1
  unfold c_mlacks
  exact w_mlacksL hw ht (201) (by omega) (by omega) (by first | exact hq | exact mH_pop hq (by omega) | exact mH_go hw hq)
def c_mtypeOf (σ : mS) (i : Int) : Int := (if (c_msizeOf σ (c_mcomponent σ (mat (σ.2 34) i) 1)) = 1 then (if (c_misType σ ((mat (σ.2 31) (mat (σ.2 30) (c_mcomponent σ (mat (σ.2 34) i) 1))) - 48)) = true then (if (mat (σ.2 3) ((mat (σ.2 31) (mat (σ.2 30) (c_mcomponent σ (mat (σ.2 34) i) 1))) - 48)) ≤ 0 then (-1) else ((mat (σ.2 31) (mat (σ.2 30) (c_mcomponent σ (mat (σ.2 34) i) 1))) - 48)) else (-1)) else (if (c_misType σ (-1)) = true then (if (mat (σ.2 3) (-1)) ≤ 0 then (-1) else (-1)) else (-1)))
theorem t_mtypeOf {l : Launch} {G : jG} {d : Nat} {σ : mS} {i : Int} (hw : wfm σ) (hd : 1 ≤ d) (hi : 0 ≤ i ∧ i ≤ 19) : CJ jMod mown l G (Yx mX7_typeOf) d 0 0 0 [some (.ref 116), some (vi i), none, none] [] σ (det (some (vi (c_mtypeOf σ i))) σ) := by
  refine C_aload_n dX7_typeOf_0 rfl ?_
  refine C_aload_n dX7_typeOf_1 rfl ?_
  refine C_get (v := .ref 134) dX7_typeOf_2 f_X7_66 (fun h hc => ⟨_, hc.1, rfl⟩) ?_
  refine C_iload_n dX7_typeOf_5 rfl ?_
  refine C_iald (v := vi (mat (σ.2 34) i)) dX7_typeOf_6 (by omega) (by omega) (fun h hc => hc.rd34 hw (by omega) (by omega)) ?_
  have e_6 := hw.a34 i
  refine C_iconst dX7_typeOf_7 ?_
  refine D_callV (As := [vi _, vi _]) (d' := 0) (t_mcomponent hw (Nat.le_refl _) (by omega) (by omega)) dX7_typeOf_8 v_X7_205 (fun h hc => ⟨_, hc.1⟩) rfl (Nat.le_of_ble_eq_true rfl) (by omega) (Nat.le_of_ble_eq_true rfl) ?_
  simp only [Option.toList, List.nil_append, List.cons_append]
  have r_8 := r_mcomponent (s := (mat (σ.2 34) i)) (e := 1) hw (by omega) (by omega)
  refine C_istore_n dX7_typeOf_11 (by decide) rfl ?_
  simp only [List.set_cons_zero, List.set_cons_succ, jfin0, jfin1, jfin2, jfin3]
  refine C_aload_n dX7_typeOf_12 rfl ?_
  refine C_iload_n dX7_typeOf_13 rfl ?_
  refine D_callV (As := [vi _]) (d' := 0) (t_msizeOf hw (Nat.le_refl _) (by omega)) dX7_typeOf_14 v_X7_202 (fun h hc => ⟨_, hc.1⟩) rfl (Nat.le_of_ble_eq_true rfl) (by omega) (Nat.le_of_ble_eq_true rfl) ?_
  simp only [Option.toList, List.nil_append, List.cons_append]
  have r_14 := And.intro (r_msizeOf (c := (c_mcomponent σ (mat (σ.2 34) i) 1)) hw (by omega)) (And.intro (ms_def σ (c_mcomponent σ (mat (σ.2 34) i) 1)) (And.intro (hw.a30 ((c_mcomponent σ (mat (σ.2 34) i) 1) + 1)) (hw.a30 (c_mcomponent σ (mat (σ.2 34) i) 1))))
  refine C_iconst dX7_typeOf_17 ?_
  refine C_icmp_ne (tgt := 38) dX7_typeOf_18 (by decide) (by omega) (by omega) (fun c_18 => ?_) (fun c_18 => ?_)
  · refine C_iconst dX7_typeOf_38 ?_
    refine C_istore_n dX7_typeOf_39 (by decide) rfl ?_
    simp only [List.set_cons_zero, List.set_cons_succ, jfin0, jfin1, jfin2, jfin3]
    refine C_iload_n dX7_typeOf_40 rfl ?_
    refine D_callS (As := [vi _]) (d' := 0) (t_misType hw (Nat.le_refl _) (by omega)) dX7_typeOf_41 s_X7_122 rfl (Nat.le_of_ble_eq_true rfl) (by omega) (Nat.le_of_ble_eq_true rfl) ?_
    simp only [Option.toList, List.nil_append, List.cons_append]
    refine C_if_eqZ (tgt := 71) dX7_typeOf_44 (by decide) (fun c_44 => ?_) (fun c_44 => ?_)
    · refine C_iconst dX7_typeOf_71 ?_
      refine C_iret dX7_typeOf_72 rfl ?_
      unfold det; rw [c_mtypeOf, if_neg (by omega), if_neg (by rw [c_44]; decide)]; exact ⟨rfl, rfl⟩
    · have b_44_2 := misType_t (σ := _) (c := (-1)) (by assumption)
      refine C_aload_n dX7_typeOf_47 rfl ?_
      refine C_get (v := .ref 118) dX7_typeOf_48 f_X7_13 (fun h hc => ⟨_, hc.1, rfl⟩) ?_
      refine C_iload_n dX7_typeOf_51 rfl ?_
      refine D_callS (As := [vi _]) (d' := 0) (t_misType hw (Nat.le_refl _) (by omega)) dX7_typeOf_52 s_X7_122 rfl (Nat.le_of_ble_eq_true rfl) (by omega) (Nat.le_of_ble_eq_true rfl) ?_
      simp only [Option.toList, List.nil_append, List.cons_append]
      refine C_if_eqZ (tgt := 62) dX7_typeOf_55 (by decide) (fun c_55 => absurd c_55 (by rw [c_44]; decide)) (fun c_55 => ?_)
      refine C_iload_n dX7_typeOf_58 rfl ?_
      refine C_goto (tgt := 63) dX7_typeOf_59 (by decide) ?_
      refine C_iald (v := vi (mat (σ.2 3) (-1))) dX7_typeOf_63 (by omega) (by omega) (fun h hc => hc.rd3 hw (by omega) (by omega)) ?_
      have e_63 := hw.a3 (-1)
      refine C_if_le (tgt := 71) dX7_typeOf_64 (by decide) (by omega) (fun c_64 => ?_) (fun c_64 => ?_)
      · refine C_iconst dX7_typeOf_71 ?_
        refine C_iret dX7_typeOf_72 rfl ?_
        unfold det; rw [c_mtypeOf, if_neg (by omega), if_pos c_44, if_pos (by omega)]; exact ⟨rfl, rfl⟩
      · refine C_iload_n dX7_typeOf_67 rfl ?_
        refine C_goto (tgt := 72) dX7_typeOf_68 (by decide) ?_
        refine C_iret dX7_typeOf_72 rfl ?_
        unfold det; rw [c_mtypeOf, if_neg (by omega), if_pos c_44, if_neg (by omega)]; exact ⟨rfl, rfl⟩
  · refine C_aload_n dX7_typeOf_21 rfl ?_
    refine C_get (v := .ref 133) dX7_typeOf_22 f_X7_63 (fun h hc => ⟨_, hc.1, rfl⟩) ?_
    refine C_aload_n dX7_typeOf_25 rfl ?_
    refine C_get (v := .ref 132) dX7_typeOf_26 f_X7_60 (fun h hc => ⟨_, hc.1, rfl⟩) ?_
    refine C_iload_n dX7_typeOf_29 rfl ?_
    refine C_iald (v := vi (mat (σ.2 30) (c_mcomponent σ (mat (σ.2 34) i) 1))) dX7_typeOf_30 (by omega) (by omega) (fun h hc => hc.rd30 hw (by omega) (by omega)) ?_
    have e_30 := hw.a30 (c_mcomponent σ (mat (σ.2 34) i) 1)
    refine C_iald (v := vi (mat (σ.2 31) (mat (σ.2 30) (c_mcomponent σ (mat (σ.2 34) i) 1)))) dX7_typeOf_31 (by omega) (by omega) (fun h hc => hc.rd31 hw (by omega) (by omega)) ?_
    have e_31 := hw.a31 (mat (σ.2 30) (c_mcomponent σ (mat (σ.2 34) i) 1))
    refine C_bipush dX7_typeOf_32 (by decide) ?_
    refine C_isub dX7_typeOf_34 ?_
    refine C_goto (tgt := 39) dX7_typeOf_35 (by decide) ?_
    refine C_istore_n dX7_typeOf_39 (by decide) rfl ?_
    simp only [List.set_cons_zero, List.set_cons_succ, jfin0, jfin1, jfin2, jfin3]
    refine C_iload_n dX7_typeOf_40 rfl ?_
    refine D_callS (As := [vi _]) (d' := 0) (t_misType hw (Nat.le_refl _) (by omega)) dX7_typeOf_41 s_X7_122 rfl (Nat.le_of_ble_eq_true rfl) (by omega) (Nat.le_of_ble_eq_true rfl) ?_
    simp only [Option.toList, List.nil_append, List.cons_append]
    refine C_if_eqZ (tgt := 71) dX7_typeOf_44 (by decide) (fun c_44 => ?_) (fun c_44 => ?_)
    · refine C_iconst dX7_typeOf_71 ?_
      refine C_iret dX7_typeOf_72 rfl ?_
      unfold det; rw [c_mtypeOf, if_pos (by omega), if_neg (by rw [c_44]; decide)]; exact ⟨rfl, rfl⟩
    · have b_44_5 := misType_t (σ := _) (c := ((mat (σ.2 31) (mat (σ.2 30) (c_mcomponent σ (mat (σ.2 34) i) 1))) - 48)) (by assumption)
      refine C_aload_n dX7_typeOf_47 rfl ?_
      refine C_get (v := .ref 118) dX7_typeOf_48 f_X7_13 (fun h hc => ⟨_, hc.1, rfl⟩) ?_
      refine C_iload_n dX7_typeOf_51 rfl ?_
      refine D_callS (As := [vi _]) (d' := 0) (t_misType hw (Nat.le_refl _) (by omega)) dX7_typeOf_52 s_X7_122 rfl (Nat.le_of_ble_eq_true rfl) (by omega) (Nat.le_of_ble_eq_true rfl) ?_
      simp only [Option.toList, List.nil_append, List.cons_append]
      refine C_if_eqZ (tgt := 62) dX7_typeOf_55 (by decide) (fun c_55 => absurd c_55 (by rw [c_44]; decide)) (fun c_55 => ?_)
      refine C_iload_n dX7_typeOf_58 rfl ?_
      refine C_goto (tgt := 63) dX7_typeOf_59 (by decide) ?_
      refine C_iald (v := vi (mat (σ.2 3) ((mat (σ.2 31) (mat (σ.2 30) (c_mcomponent σ (mat (σ.2 34) i) 1))) - 48))) dX7_typeOf_63 (by omega) (by omega) (fun h hc => hc.rd3 hw (by omega) (by omega)) ?_
      have e_63 := hw.a3 ((mat (σ.2 31) (mat (σ.2 30) (c_mcomponent σ (mat (σ.2 34) i) 1))) - 48)
      refine C_if_le (tgt := 71) dX7_typeOf_64 (by decide) (by omega) (fun c_64 => ?_) (fun c_64 => ?_)
      · refine C_iconst dX7_typeOf_71 ?_
        refine C_iret dX7_typeOf_72 rfl ?_
        unfold det; rw [c_mtypeOf, if_pos (by omega), if_pos c_44, if_pos (by omega)]; exact ⟨rfl, rfl⟩
      · refine C_iload_n dX7_typeOf_67 rfl ?_
        refine C_goto (tgt := 72) dX7_typeOf_68 (by decide) ?_
        refine C_iret dX7_typeOf_72 rfl ?_
        unfold det; rw [c_mtypeOf, if_pos (by omega), if_pos c_44, if_neg (by omega)]; exact ⟨rfl, rfl⟩
theorem r_mtypeOf {σ : mS} {i : Int} (hw : wfm σ) (hi : 0 ≤ i ∧ i ≤ 19) : -1 ≤ (c_mtypeOf σ i) ∧ (c_mtypeOf σ i) < 4 := by
  unfold c_mtypeOf
  split
  · split
    · split
      · have e_6 := hw.a34 i
        have r_8 := r_mcomponent (s := (mat (σ.2 34) i)) (e := 1) hw (by omega) (by omega)
        have r_14 := And.intro (r_msizeOf (c := (c_mcomponent σ (mat (σ.2 34) i) 1)) hw (by omega)) (And.intro (ms_def σ (c_mcomponent σ (mat (σ.2 34) i) 1)) (And.intro (hw.a30 ((c_mcomponent σ (mat (σ.2 34) i) 1) + 1)) (hw.a30 (c_mcomponent σ (mat (σ.2 34) i) 1))))
        have e_30 := hw.a30 (c_mcomponent σ (mat (σ.2 34) i) 1)
        have e_31 := hw.a31 (mat (σ.2 30) (c_mcomponent σ (mat (σ.2 34) i) 1))
        have b_44_5 := misType_t (σ := _) (c := ((mat (σ.2 31) (mat (σ.2 30) (c_mcomponent σ (mat (σ.2 34) i) 1))) - 48)) (by assumption)
        have e_63 := hw.a3 ((mat (σ.2 31) (mat (σ.2 30) (c_mcomponent σ (mat (σ.2 34) i) 1))) - 48)
        omega
      · have e_6 := hw.a34 i
        have r_8 := r_mcomponent (s := (mat (σ.2 34) i)) (e := 1) hw (by omega) (by omega)
        have r_14 := And.intro (r_msizeOf (c := (c_mcomponent σ (mat (σ.2 34) i) 1)) hw (by omega)) (And.intro (ms_def σ (c_mcomponent σ (mat (σ.2 34) i) 1)) (And.intro (hw.a30 ((c_mcomponent σ (mat (σ.2 34) i) 1) + 1)) (hw.a30 (c_mcomponent σ (mat (σ.2 34) i) 1))))
        have e_30 := hw.a30 (c_mcomponent σ (mat (σ.2 34) i) 1)
        have e_31 := hw.a31 (mat (σ.2 30) (c_mcomponent σ (mat (σ.2 34) i) 1))
        have b_44_5 := misType_t (σ := _) (c := ((mat (σ.2 31) (mat (σ.2 30) (c_mcomponent σ (mat (σ.2 34) i) 1))) - 48)) (by assumption)
        have e_63 := hw.a3 ((mat (σ.2 31) (mat (σ.2 30) (c_mcomponent σ (mat (σ.2 34) i) 1))) - 48)
        omega
    · have e_6 := hw.a34 i
      have r_8 := r_mcomponent (s := (mat (σ.2 34) i)) (e := 1) hw (by omega) (by omega)
      have r_14 := And.intro (r_msizeOf (c := (c_mcomponent σ (mat (σ.2 34) i) 1)) hw (by omega)) (And.intro (ms_def σ (c_mcomponent σ (mat (σ.2 34) i) 1)) (And.intro (hw.a30 ((c_mcomponent σ (mat (σ.2 34) i) 1) + 1)) (hw.a30 (c_mcomponent σ (mat (σ.2 34) i) 1))))
      have e_30 := hw.a30 (c_mcomponent σ (mat (σ.2 34) i) 1)
      have e_31 := hw.a31 (mat (σ.2 30) (c_mcomponent σ (mat (σ.2 34) i) 1))
      omega
  · split
    · split
      · have e_6 := hw.a34 i
        have r_8 := r_mcomponent (s := (mat (σ.2 34) i)) (e := 1) hw (by omega) (by omega)
        have r_14 := And.intro (r_msizeOf (c := (c_mcomponent σ (mat (σ.2 34) i) 1)) hw (by omega)) (And.intro (ms_def σ (c_mcomponent σ (mat (σ.2 34) i) 1)) (And.intro (hw.a30 ((c_mcomponent σ (mat (σ.2 34) i) 1) + 1)) (hw.a30 (c_mcomponent σ (mat (σ.2 34) i) 1))))
        have b_44_2 := misType_t (σ := _) (c := (-1)) (by assumption)
        have e_63 := hw.a3 (-1)
        omega
      · have e_6 := hw.a34 i
        have r_8 := r_mcomponent (s := (mat (σ.2 34) i)) (e := 1) hw (by omega) (by omega)
        have r_14 := And.intro (r_msizeOf (c := (c_mcomponent σ (mat (σ.2 34) i) 1)) hw (by omega)) (And.intro (ms_def σ (c_mcomponent σ (mat (σ.2 34) i) 1)) (And.intro (hw.a30 ((c_mcomponent σ (mat (σ.2 34) i) 1) + 1)) (hw.a30 (c_mcomponent σ (mat (σ.2 34) i) 1))))
        have b_44_2 := misType_t (σ := _) (c := (-1)) (by assumption)
        have e_63 := hw.a3 (-1)
        omega
    · have e_6 := hw.a34 i
      have r_8 := r_mcomponent (s := (mat (σ.2 34) i)) (e := 1) hw (by omega) (by omega)
      have r_14 := And.intro (r_msizeOf (c := (c_mcomponent σ (mat (σ.2 34) i) 1)) hw (by omega)) (And.intro (ms_def σ (c_mcomponent σ (mat (σ.2 34) i) 1)) (And.intro (hw.a30 ((c_mcomponent σ (mat (σ.2 34) i) 1) + 1)) (hw.a30 (c_mcomponent σ (mat (σ.2 34) i) 1))))
      omega
theorem fo_L {σ : mS} {t k g : Int} (fu : Nat) (x : Int) : c_mfollowingL t k g fu x σ = 0 ∨ c_mfollowingL t k g fu x σ = -1 ∨ (x ≤ c_mfollowingL t k g fu x σ ∧ c_mfollowingL t k g fu x σ < mat (σ.2 3) t ∧ mat (σ.2 7) ((24 * t) + c_mfollowingL t k g fu x σ) = g) := by
  induction fu generalizing x with
  | zero => exact Or.inl rfl
  | succ fu ih =>
    unfold c_mfollowingL
    split
    · exact Or.inr (Or.inl rfl)
    · split
      · rename_i h1 h2
        exact Or.inr (Or.inr ⟨Int.le_refl _, by omega, h2⟩)
      · rcases ih (x + 1) with h | h | h
        · exact Or.inl h
        · exact Or.inr (Or.inl h)
        · exact Or.inr (Or.inr ⟨by omega, h.2⟩)
