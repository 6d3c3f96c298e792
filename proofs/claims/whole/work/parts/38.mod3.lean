theorem misType_t {σ : mS} {c : Int} (h : c_misType σ c = true) : 0 ≤ c ∧ c ≤ 3 := by
  unfold c_misType at h
  (repeat' split at h) <;> first | omega | cases h
theorem misTag_t {σ : mS} {c : Int} (h : c_misTag σ c = true) : 0 ≤ c ∧ c < 16777216 := by
  unfold c_misTag at h
  split at h
  · cases h
  · split at h
    · rename_i h1
      have := misLetter_t h1
      omega
    · cases h
def c_mslot (σ : mS) (t : Int) (v : Int) (b : Int) (c : Int) : Int × mS := (if (c_misType σ t) = true then (if (c_misTag σ v) = true then (if c < 1 then (0, (mfl σ 0 1)) else (if 99 < c then (0, (mfl σ 0 1)) else (if (c_misEnvelope σ v) = true then (0, (mfl σ 0 1)) else (if (mat (σ.2 3) t) = 24 then (0, (mfl (mfl σ 0 0) 0 2)) else (if (c_misBare (mfl σ 0 0) t) = true then (if b = 0 then (0, (mfl (mfl σ 0 0) 0 2)) else (if c = 1 then ((c_madd (mfl (mfl σ 0 0) 0 0) t v b c).1, (c_madd (mfl (mfl σ 0 0) 0 0) t v b c).2) else (0, (mfl (mfl σ 0 0) 0 2)))) else ((c_madd (mfl (mfl σ 0 0) 0 0) t v b c).1, (c_madd (mfl (mfl σ 0 0) 0 0) t v b c).2)))))) else (0, (mfl σ 0 1))) else (0, (mfl σ 0 1)))
theorem t_mslot {l : Launch} {G : jG} {d : Nat} {σ : mS} {t : Int} {v : Int} {b : Int} {c : Int} (hw : wfm σ) (hd : 2 ≤ d) (ht : rg t) (hv : rg v) (hb : 0 ≤ b ∧ b ≤ 1) (hc : rg c) : CJ jMod mown l G (Yx mX7_slot) d 0 0 0 [some (.ref 116), some (vi t), some (vi v), some (vi b), some (vi c)] [] σ (det (some (vi (c_mslot σ t v b c).1)) (c_mslot σ t v b c).2) := by
  refine C_aload_n dX7_slot_0 rfl ?_
  refine C_iload_n dX7_slot_1 rfl ?_
  refine D_callS (As := [vi _]) (d' := 0) (t_misType hw (Nat.le_refl _) (by omega)) dX7_slot_2 s_X7_122 rfl (Nat.le_of_ble_eq_true rfl) (by omega) (Nat.le_of_ble_eq_true rfl) ?_
  simp only [Option.toList, List.nil_append, List.cons_append]
  refine C_if_eqZ (tgt := 35) dX7_slot_5 (by decide) (fun c_5 => ?_) (fun c_5 => ?_)
  · refine C_iconst dX7_slot_35 ?_
    refine C_goto (tgt := 40) dX7_slot_36 (by decide) ?_
    refine C_put (σ' := (mfl σ 0 1)) dX7_slot_40 f_X7_102 jfit_i mown_0 (fun h hc => hc.pf0) ?_
    have hw2 : wfm (mfl σ 0 1) := wfm_f (k := 0) hw (show (0 : Int) ≤ 1 ∧ 1 ≤ 2 by omega)
    refine C_aload_n dX7_slot_43 rfl ?_
    refine C_get (v := vi 1) dX7_slot_44 f_X7_102 (fun h hc => ⟨_, hc.1, congrArg (fun z => some (vi z)) (show ((mfl σ 0 1).1 0) = 1 by simp [mfl, mar, upF])⟩) ?_
    refine C_if_le (tgt := 52) dX7_slot_47 (by decide) (by omega) (fun c_47 => absurd c_47 (by omega)) (fun c_47 => ?_)
    refine C_iconst dX7_slot_50 ?_
    refine C_iret dX7_slot_51 rfl ?_
    unfold det; rw [c_mslot, if_neg (by rw [c_5]; decide)]; exact ⟨rfl, rfl⟩
  · have b_5_1 := misType_t (σ := _) (c := t) (by assumption)
    refine C_iload_n dX7_slot_8 rfl ?_
    refine D_callS (As := [vi _]) (d' := 1) (t_misTag hw (Nat.le_refl _) (by omega)) dX7_slot_9 s_X7_125 rfl (Nat.le_of_ble_eq_true rfl) (by omega) (Nat.le_of_ble_eq_true rfl) ?_
    simp only [Option.toList, List.nil_append, List.cons_append]
    refine C_if_eqZ (tgt := 35) dX7_slot_12 (by decide) (fun c_12 => ?_) (fun c_12 => ?_)
    · refine C_iconst dX7_slot_35 ?_
      refine C_goto (tgt := 40) dX7_slot_36 (by decide) ?_
      refine C_put (σ' := (mfl σ 0 1)) dX7_slot_40 f_X7_102 jfit_i mown_0 (fun h hc => hc.pf0) ?_
      have hw5 : wfm (mfl σ 0 1) := wfm_f (k := 0) hw (show (0 : Int) ≤ 1 ∧ 1 ≤ 2 by omega)
      refine C_aload_n dX7_slot_43 rfl ?_
      refine C_get (v := vi 1) dX7_slot_44 f_X7_102 (fun h hc => ⟨_, hc.1, congrArg (fun z => some (vi z)) (show ((mfl σ 0 1).1 0) = 1 by simp [mfl, mar, upF])⟩) ?_
      refine C_if_le (tgt := 52) dX7_slot_47 (by decide) (by omega) (fun c_47 => absurd c_47 (by omega)) (fun c_47 => ?_)
      refine C_iconst dX7_slot_50 ?_
      refine C_iret dX7_slot_51 rfl ?_
      unfold det; rw [c_mslot, if_pos c_5, if_neg (by rw [c_12]; decide)]; exact ⟨rfl, rfl⟩
    · have b_12_4 := misTag_t (σ := _) (c := v) (by assumption)
      refine C_iload dX7_slot_15 rfl ?_
      refine C_iconst dX7_slot_17 ?_
      refine C_icmp_lt (tgt := 35) dX7_slot_18 (by decide) (by omega) (by omega) (fun c_18 => ?_) (fun c_18 => ?_)
      · refine C_iconst dX7_slot_35 ?_
        refine C_goto (tgt := 40) dX7_slot_36 (by decide) ?_
        refine C_put (σ' := (mfl σ 0 1)) dX7_slot_40 f_X7_102 jfit_i mown_0 (fun h hc => hc.pf0) ?_
        have hw8 : wfm (mfl σ 0 1) := wfm_f (k := 0) hw (show (0 : Int) ≤ 1 ∧ 1 ≤ 2 by omega)
        refine C_aload_n dX7_slot_43 rfl ?_
        refine C_get (v := vi 1) dX7_slot_44 f_X7_102 (fun h hc => ⟨_, hc.1, congrArg (fun z => some (vi z)) (show ((mfl σ 0 1).1 0) = 1 by simp [mfl, mar, upF])⟩) ?_
        refine C_if_le (tgt := 52) dX7_slot_47 (by decide) (by omega) (fun c_47 => absurd c_47 (by omega)) (fun c_47 => ?_)
        refine C_iconst dX7_slot_50 ?_
        refine C_iret dX7_slot_51 rfl ?_
        unfold det; rw [c_mslot, if_pos c_5, if_pos c_12, if_pos (by omega)]; exact ⟨rfl, rfl⟩
      · refine C_iload dX7_slot_21 rfl ?_
        refine C_bipush dX7_slot_23 (by decide) ?_
        refine C_icmp_gt (tgt := 35) dX7_slot_25 (by decide) (by omega) (by omega) (fun c_25 => ?_) (fun c_25 => ?_)
        · refine C_iconst dX7_slot_35 ?_
          refine C_goto (tgt := 40) dX7_slot_36 (by decide) ?_
          refine C_put (σ' := (mfl σ 0 1)) dX7_slot_40 f_X7_102 jfit_i mown_0 (fun h hc => hc.pf0) ?_
          have hw11 : wfm (mfl σ 0 1) := wfm_f (k := 0) hw (show (0 : Int) ≤ 1 ∧ 1 ≤ 2 by omega)
          refine C_aload_n dX7_slot_43 rfl ?_
          refine C_get (v := vi 1) dX7_slot_44 f_X7_102 (fun h hc => ⟨_, hc.1, congrArg (fun z => some (vi z)) (show ((mfl σ 0 1).1 0) = 1 by simp [mfl, mar, upF])⟩) ?_
          refine C_if_le (tgt := 52) dX7_slot_47 (by decide) (by omega) (fun c_47 => absurd c_47 (by omega)) (fun c_47 => ?_)
          refine C_iconst dX7_slot_50 ?_
          refine C_iret dX7_slot_51 rfl ?_
          unfold det; rw [c_mslot, if_pos c_5, if_pos c_12, if_neg (by omega), if_pos (by omega)]; exact ⟨rfl, rfl⟩
        · refine C_iload_n dX7_slot_28 rfl ?_
          refine D_callS (As := [vi _]) (d' := 0) (t_misEnvelope hw (Nat.le_refl _) (by omega)) dX7_slot_29 s_X7_128 rfl (Nat.le_of_ble_eq_true rfl) (by omega) (Nat.le_of_ble_eq_true rfl) ?_
          simp only [Option.toList, List.nil_append, List.cons_append]
          refine C_if_eqZ (tgt := 39) dX7_slot_32 (by decide) (fun c_32 => ?_) (fun c_32 => ?_)
          · refine C_iconst dX7_slot_39 ?_
            refine C_put (σ' := (mfl σ 0 0)) dX7_slot_40 f_X7_102 jfit_i mown_0 (fun h hc => hc.pf0) ?_
            have hw14 : wfm (mfl σ 0 0) := wfm_f (k := 0) hw (show (0 : Int) ≤ 0 ∧ 0 ≤ 2 by omega)
            refine C_aload_n dX7_slot_43 rfl ?_
            refine C_get (v := vi 0) dX7_slot_44 f_X7_102 (fun h hc => ⟨_, hc.1, congrArg (fun z => some (vi z)) (show ((mfl σ 0 0).1 0) = 0 by simp [mfl, mar, upF])⟩) ?_
            refine C_if_le (tgt := 52) dX7_slot_47 (by decide) (by omega) (fun c_47 => ?_) (fun c_47 => absurd c_47 (by omega))
            refine C_aload_n dX7_slot_52 rfl ?_
            refine C_aload_n dX7_slot_53 rfl ?_
            refine C_get (v := .ref 118) dX7_slot_54 f_X7_13 (fun h hc => ⟨_, hc.1, rfl⟩) ?_
            refine C_iload_n dX7_slot_57 rfl ?_
            refine C_iald (v := vi (mat (σ.2 3) t)) dX7_slot_58 (by omega) (by omega) (fun h hc => (hc.rd3 hw14 (by omega) (by omega)).imp (fun vs q => ⟨q.1, q.2.trans (congrArg (fun z => some (vi (mat z t))) (show (mfl σ 0 0).2 3 = σ.2 3 by simp [mfl, mar, upF]))⟩)) ?_
            have e_58 := hw.a3 t
            refine C_bipush dX7_slot_59 (by decide) ?_
            refine C_icmp_eq (tgt := 82) dX7_slot_61 (by decide) (by omega) (by omega) (fun c_61 => ?_) (fun c_61 => ?_)
            · refine C_iconst dX7_slot_82 ?_
              refine C_goto (tgt := 87) dX7_slot_83 (by decide) ?_
              refine C_put (σ' := (mfl (mfl σ 0 0) 0 2)) dX7_slot_87 f_X7_102 jfit_i mown_0 (fun h hc => hc.pf0) ?_
              have hw17 : wfm (mfl (mfl σ 0 0) 0 2) := wfm_f (k := 0) hw14 (show (0 : Int) ≤ 2 ∧ 2 ≤ 2 by omega)
              refine C_aload_n dX7_slot_90 rfl ?_
              refine C_get (v := vi 2) dX7_slot_91 f_X7_102 (fun h hc => ⟨_, hc.1, congrArg (fun z => some (vi z)) (show ((mfl (mfl σ 0 0) 0 2).1 0) = 2 by simp [mfl, mar, upF])⟩) ?_
              refine C_if_le (tgt := 101) dX7_slot_94 (by decide) (by omega) (fun c_94 => absurd c_94 (by omega)) (fun c_94 => ?_)
              refine C_iconst dX7_slot_97 ?_
              refine C_goto (tgt := 110) dX7_slot_98 (by decide) ?_
              refine C_iret dX7_slot_110 rfl ?_
              unfold det; rw [c_mslot, if_pos c_5, if_pos c_12, if_neg (by omega), if_neg (by omega), if_neg (by rw [c_32]; decide), if_pos (by omega)]; exact ⟨rfl, rfl⟩
            · refine C_aload_n dX7_slot_64 rfl ?_
              refine C_iload_n dX7_slot_65 rfl ?_
              refine D_callV (As := [vi _]) (d' := 1) (t_misBare hw14 (Nat.le_refl _) (by omega)) dX7_slot_66 v_X7_131 (fun h hc => ⟨_, hc.1⟩) rfl (Nat.le_of_ble_eq_true rfl) (by omega) (Nat.le_of_ble_eq_true rfl) ?_
              simp only [Option.toList, List.nil_append, List.cons_append]
              refine C_if_eqZ (tgt := 86) dX7_slot_69 (by decide) (fun c_69 => ?_) (fun c_69 => ?_)
              · refine C_iconst dX7_slot_86 ?_
                refine C_put (σ' := (mfl (mfl σ 0 0) 0 0)) dX7_slot_87 f_X7_102 jfit_i mown_0 (fun h hc => hc.pf0) ?_
                have hw20 : wfm (mfl (mfl σ 0 0) 0 0) := wfm_f (k := 0) hw14 (show (0 : Int) ≤ 0 ∧ 0 ≤ 2 by omega)
                refine C_aload_n dX7_slot_90 rfl ?_
                refine C_get (v := vi 0) dX7_slot_91 f_X7_102 (fun h hc => ⟨_, hc.1, congrArg (fun z => some (vi z)) (show ((mfl (mfl σ 0 0) 0 0).1 0) = 0 by simp [mfl, mar, upF])⟩) ?_
                refine C_if_le (tgt := 101) dX7_slot_94 (by decide) (by omega) (fun c_94 => ?_) (fun c_94 => absurd c_94 (by omega))
                refine C_aload_n dX7_slot_101 rfl ?_
                refine C_iload_n dX7_slot_102 rfl ?_
                refine C_iload_n dX7_slot_103 rfl ?_
                refine C_iload_n dX7_slot_104 rfl ?_
                refine C_iload dX7_slot_105 rfl ?_
                refine D_callV (As := [vi _, vi _, vi _, vi _]) (d' := 0) (t_madd hw20 (Nat.le_refl _) (by omega) (by omega) (by omega) (by omega) (by first | omega | (simp only [mfl, mar, upF]; omega) | (simp [mfl, mar, upF]; omega))) dX7_slot_107 v_X7_134 (fun h hc => ⟨_, hc.1⟩) rfl (Nat.le_of_ble_eq_true rfl) (by omega) (Nat.le_of_ble_eq_true rfl) ?_
                simp only [Option.toList, List.nil_append, List.cons_append]
                have hw22 : wfm (c_madd (mfl (mfl σ 0 0) 0 0) t v b c).2 := w_madd hw20 (by omega) (by omega) (by omega) (by omega) (by first | omega | (simp only [mfl, mar, upF]; omega) | (simp [mfl, mar, upF]; omega))
                have r_107 := r_madd (t := t) (v := v) (b := b) (c := c) hw20 (by omega) (by omega) (by omega) (by omega) (by first | omega | (simp only [mfl, mar, upF]; omega) | (simp [mfl, mar, upF]; omega))
                refine C_iret dX7_slot_110 rfl ?_
                unfold det; rw [c_mslot, if_pos c_5, if_pos c_12, if_neg (by omega), if_neg (by omega), if_neg (by rw [c_32]; decide), if_neg (by omega), if_neg (by rw [c_69]; decide)]; exact ⟨rfl, rfl⟩
              · refine C_iload_n dX7_slot_72 rfl ?_
                refine C_if_eq (tgt := 82) dX7_slot_73 (by decide) (by omega) (fun c_73 => ?_) (fun c_73 => ?_)
                · refine C_iconst dX7_slot_82 ?_
                  refine C_goto (tgt := 87) dX7_slot_83 (by decide) ?_
                  refine C_put (σ' := (mfl (mfl σ 0 0) 0 2)) dX7_slot_87 f_X7_102 jfit_i mown_0 (fun h hc => hc.pf0) ?_
                  have hw24 : wfm (mfl (mfl σ 0 0) 0 2) := wfm_f (k := 0) hw14 (show (0 : Int) ≤ 2 ∧ 2 ≤ 2 by omega)
                  refine C_aload_n dX7_slot_90 rfl ?_
                  refine C_get (v := vi 2) dX7_slot_91 f_X7_102 (fun h hc => ⟨_, hc.1, congrArg (fun z => some (vi z)) (show ((mfl (mfl σ 0 0) 0 2).1 0) = 2 by simp [mfl, mar, upF])⟩) ?_
                  refine C_if_le (tgt := 101) dX7_slot_94 (by decide) (by omega) (fun c_94 => absurd c_94 (by omega)) (fun c_94 => ?_)
                  refine C_iconst dX7_slot_97 ?_
                  refine C_goto (tgt := 110) dX7_slot_98 (by decide) ?_
                  refine C_iret dX7_slot_110 rfl ?_
                  unfold det; rw [c_mslot, if_pos c_5, if_pos c_12, if_neg (by omega), if_neg (by omega), if_neg (by rw [c_32]; decide), if_neg (by omega), if_pos c_69, if_pos (by omega)]; exact ⟨rfl, rfl⟩
                · refine C_iload dX7_slot_76 rfl ?_
                  refine C_iconst dX7_slot_78 ?_
                  refine C_icmp_eq (tgt := 86) dX7_slot_79 (by decide) (by omega) (by omega) (fun c_79 => ?_) (fun c_79 => ?_)
                  · refine C_iconst dX7_slot_86 ?_
                    refine C_put (σ' := (mfl (mfl σ 0 0) 0 0)) dX7_slot_87 f_X7_102 jfit_i mown_0 (fun h hc => hc.pf0) ?_
                    have hw27 : wfm (mfl (mfl σ 0 0) 0 0) := wfm_f (k := 0) hw14 (show (0 : Int) ≤ 0 ∧ 0 ≤ 2 by omega)
                    refine C_aload_n dX7_slot_90 rfl ?_
                    refine C_get (v := vi 0) dX7_slot_91 f_X7_102 (fun h hc => ⟨_, hc.1, congrArg (fun z => some (vi z)) (show ((mfl (mfl σ 0 0) 0 0).1 0) = 0 by simp [mfl, mar, upF])⟩) ?_
                    refine C_if_le (tgt := 101) dX7_slot_94 (by decide) (by omega) (fun c_94 => ?_) (fun c_94 => absurd c_94 (by omega))
                    refine C_aload_n dX7_slot_101 rfl ?_
                    refine C_iload_n dX7_slot_102 rfl ?_
                    refine C_iload_n dX7_slot_103 rfl ?_
                    refine C_iload_n dX7_slot_104 rfl ?_
                    refine C_iload dX7_slot_105 rfl ?_
                    refine D_callV (As := [vi _, vi _, vi _, vi _]) (d' := 0) (t_madd hw27 (Nat.le_refl _) (by omega) (by omega) (by omega) (by omega) (by first | omega | (simp only [mfl, mar, upF]; omega) | (simp [mfl, mar, upF]; omega))) dX7_slot_107 v_X7_134 (fun h hc => ⟨_, hc.1⟩) rfl (Nat.le_of_ble_eq_true rfl) (by omega) (Nat.le_of_ble_eq_true rfl) ?_
                    simp only [Option.toList, List.nil_append, List.cons_append]
                    have hw29 : wfm (c_madd (mfl (mfl σ 0 0) 0 0) t v b c).2 := w_madd hw27 (by omega) (by omega) (by omega) (by omega) (by first | omega | (simp only [mfl, mar, upF]; omega) | (simp [mfl, mar, upF]; omega))
                    have r_107 := r_madd (t := t) (v := v) (b := b) (c := c) hw27 (by omega) (by omega) (by omega) (by omega) (by first | omega | (simp only [mfl, mar, upF]; omega) | (simp [mfl, mar, upF]; omega))
                    refine C_iret dX7_slot_110 rfl ?_
                    unfold det; rw [c_mslot, if_pos c_5, if_pos c_12, if_neg (by omega), if_neg (by omega), if_neg (by rw [c_32]; decide), if_neg (by omega), if_pos c_69, if_neg (by omega), if_pos (by omega)]; exact ⟨rfl, rfl⟩
                  · refine C_iconst dX7_slot_82 ?_
                    refine C_goto (tgt := 87) dX7_slot_83 (by decide) ?_
                    refine C_put (σ' := (mfl (mfl σ 0 0) 0 2)) dX7_slot_87 f_X7_102 jfit_i mown_0 (fun h hc => hc.pf0) ?_
                    have hw30 : wfm (mfl (mfl σ 0 0) 0 2) := wfm_f (k := 0) hw14 (show (0 : Int) ≤ 2 ∧ 2 ≤ 2 by omega)
                    refine C_aload_n dX7_slot_90 rfl ?_
                    refine C_get (v := vi 2) dX7_slot_91 f_X7_102 (fun h hc => ⟨_, hc.1, congrArg (fun z => some (vi z)) (show ((mfl (mfl σ 0 0) 0 2).1 0) = 2 by simp [mfl, mar, upF])⟩) ?_
                    refine C_if_le (tgt := 101) dX7_slot_94 (by decide) (by omega) (fun c_94 => absurd c_94 (by omega)) (fun c_94 => ?_)
                    refine C_iconst dX7_slot_97 ?_
                    refine C_goto (tgt := 110) dX7_slot_98 (by decide) ?_
                    refine C_iret dX7_slot_110 rfl ?_
                    unfold det; rw [c_mslot, if_pos c_5, if_pos c_12, if_neg (by omega), if_neg (by omega), if_neg (by rw [c_32]; decide), if_neg (by omega), if_pos c_69, if_neg (by omega), if_neg (by omega)]; exact ⟨rfl, rfl⟩
          · refine C_iconst dX7_slot_35 ?_
            refine C_goto (tgt := 40) dX7_slot_36 (by decide) ?_
            refine C_put (σ' := (mfl σ 0 1)) dX7_slot_40 f_X7_102 jfit_i mown_0 (fun h hc => hc.pf0) ?_
            have hw32 : wfm (mfl σ 0 1) := wfm_f (k := 0) hw (show (0 : Int) ≤ 1 ∧ 1 ≤ 2 by omega)
            refine C_aload_n dX7_slot_43 rfl ?_
            refine C_get (v := vi 1) dX7_slot_44 f_X7_102 (fun h hc => ⟨_, hc.1, congrArg (fun z => some (vi z)) (show ((mfl σ 0 1).1 0) = 1 by simp [mfl, mar, upF])⟩) ?_
            refine C_if_le (tgt := 52) dX7_slot_47 (by decide) (by omega) (fun c_47 => absurd c_47 (by omega)) (fun c_47 => ?_)
            refine C_iconst dX7_slot_50 ?_
            refine C_iret dX7_slot_51 rfl ?_
            unfold det; rw [c_mslot, if_pos c_5, if_pos c_12, if_neg (by omega), if_neg (by omega), if_pos c_32]; exact ⟨rfl, rfl⟩
theorem r_mslot {σ : mS} {t : Int} {v : Int} {b : Int} {c : Int} (hw : wfm σ) (ht : rg t) (hv : rg v) (hb : 0 ≤ b ∧ b ≤ 1) (hc : rg c) : 0 ≤ (c_mslot σ t v b c).1 ∧ (c_mslot σ t v b c).1 < 25 := by
  unfold c_mslot
  split
  · split
    · split
      · have b_5_1 := misType_t (σ := _) (c := t) (by assumption)
        have b_12_4 := misTag_t (σ := _) (c := v) (by assumption)
        have hw8 : wfm (mfl σ 0 1) := wfm_f (k := 0) hw (show (0 : Int) ≤ 1 ∧ 1 ≤ 2 by omega)
        omega
      · split
        · have b_5_1 := misType_t (σ := _) (c := t) (by assumption)
          have b_12_4 := misTag_t (σ := _) (c := v) (by assumption)
          have hw11 : wfm (mfl σ 0 1) := wfm_f (k := 0) hw (show (0 : Int) ≤ 1 ∧ 1 ≤ 2 by omega)
          omega
        · split
          · have b_5_1 := misType_t (σ := _) (c := t) (by assumption)
            have b_12_4 := misTag_t (σ := _) (c := v) (by assumption)
            have hw32 : wfm (mfl σ 0 1) := wfm_f (k := 0) hw (show (0 : Int) ≤ 1 ∧ 1 ≤ 2 by omega)
            omega
          · split
            · have b_5_1 := misType_t (σ := _) (c := t) (by assumption)
              have b_12_4 := misTag_t (σ := _) (c := v) (by assumption)
              have hw14 : wfm (mfl σ 0 0) := wfm_f (k := 0) hw (show (0 : Int) ≤ 0 ∧ 0 ≤ 2 by omega)
              have e_58 := hw.a3 t
              have hw17 : wfm (mfl (mfl σ 0 0) 0 2) := wfm_f (k := 0) hw14 (show (0 : Int) ≤ 2 ∧ 2 ≤ 2 by omega)
              omega
            · split
              · split
                · have b_5_1 := misType_t (σ := _) (c := t) (by assumption)
                  have b_12_4 := misTag_t (σ := _) (c := v) (by assumption)
                  have hw14 : wfm (mfl σ 0 0) := wfm_f (k := 0) hw (show (0 : Int) ≤ 0 ∧ 0 ≤ 2 by omega)
                  have e_58 := hw.a3 t
                  have hw24 : wfm (mfl (mfl σ 0 0) 0 2) := wfm_f (k := 0) hw14 (show (0 : Int) ≤ 2 ∧ 2 ≤ 2 by omega)
                  omega
                · split
                  · have b_5_1 := misType_t (σ := _) (c := t) (by assumption)
                    have b_12_4 := misTag_t (σ := _) (c := v) (by assumption)
                    have hw14 : wfm (mfl σ 0 0) := wfm_f (k := 0) hw (show (0 : Int) ≤ 0 ∧ 0 ≤ 2 by omega)
                    have e_58 := hw.a3 t
                    have hw27 : wfm (mfl (mfl σ 0 0) 0 0) := wfm_f (k := 0) hw14 (show (0 : Int) ≤ 0 ∧ 0 ≤ 2 by omega)
                    have hw29 : wfm (c_madd (mfl (mfl σ 0 0) 0 0) t v b c).2 := w_madd hw27 (by omega) (by omega) (by omega) (by omega) (by first | omega | (simp only [mfl, mar, upF]; omega) | (simp [mfl, mar, upF]; omega))
                    have r_107 := r_madd (t := t) (v := v) (b := b) (c := c) hw27 (by omega) (by omega) (by omega) (by omega) (by first | omega | (simp only [mfl, mar, upF]; omega) | (simp [mfl, mar, upF]; omega))
                    omega
                  · have b_5_1 := misType_t (σ := _) (c := t) (by assumption)
                    have b_12_4 := misTag_t (σ := _) (c := v) (by assumption)
                    have hw14 : wfm (mfl σ 0 0) := wfm_f (k := 0) hw (show (0 : Int) ≤ 0 ∧ 0 ≤ 2 by omega)
                    have e_58 := hw.a3 t
                    have hw30 : wfm (mfl (mfl σ 0 0) 0 2) := wfm_f (k := 0) hw14 (show (0 : Int) ≤ 2 ∧ 2 ≤ 2 by omega)
                    omega
              · have b_5_1 := misType_t (σ := _) (c := t) (by assumption)
                have b_12_4 := misTag_t (σ := _) (c := v) (by assumption)
                have hw14 : wfm (mfl σ 0 0) := wfm_f (k := 0) hw (show (0 : Int) ≤ 0 ∧ 0 ≤ 2 by omega)
                have e_58 := hw.a3 t
                have hw20 : wfm (mfl (mfl σ 0 0) 0 0) := wfm_f (k := 0) hw14 (show (0 : Int) ≤ 0 ∧ 0 ≤ 2 by omega)
                have hw22 : wfm (c_madd (mfl (mfl σ 0 0) 0 0) t v b c).2 := w_madd hw20 (by omega) (by omega) (by omega) (by omega) (by first | omega | (simp only [mfl, mar, upF]; omega) | (simp [mfl, mar, upF]; omega))
                have r_107 := r_madd (t := t) (v := v) (b := b) (c := c) hw20 (by omega) (by omega) (by omega) (by omega) (by first | omega | (simp only [mfl, mar, upF]; omega) | (simp [mfl, mar, upF]; omega))
                omega
    · have b_5_1 := misType_t (σ := _) (c := t) (by assumption)
      have hw5 : wfm (mfl σ 0 1) := wfm_f (k := 0) hw (show (0 : Int) ≤ 1 ∧ 1 ≤ 2 by omega)
      omega
  · have hw2 : wfm (mfl σ 0 1) := wfm_f (k := 0) hw (show (0 : Int) ≤ 1 ∧ 1 ≤ 2 by omega)
    omega
theorem w_mslot {σ : mS} {t : Int} {v : Int} {b : Int} {c : Int} (hw : wfm σ) (ht : rg t) (hv : rg v) (hb : 0 ≤ b ∧ b ≤ 1) (hc : rg c) : wfm (c_mslot σ t v b c).2 := by
  unfold c_mslot
  split
  · split
    · split
      · have b_5_1 := misType_t (σ := _) (c := t) (by assumption)
        have b_12_4 := misTag_t (σ := _) (c := v) (by assumption)
        have hw8 : wfm (mfl σ 0 1) := wfm_f (k := 0) hw (show (0 : Int) ≤ 1 ∧ 1 ≤ 2 by omega)
        exact hw8
      · split
        · have b_5_1 := misType_t (σ := _) (c := t) (by assumption)
          have b_12_4 := misTag_t (σ := _) (c := v) (by assumption)
          have hw11 : wfm (mfl σ 0 1) := wfm_f (k := 0) hw (show (0 : Int) ≤ 1 ∧ 1 ≤ 2 by omega)
          exact hw11
        · split
          · have b_5_1 := misType_t (σ := _) (c := t) (by assumption)
            have b_12_4 := misTag_t (σ := _) (c := v) (by assumption)
            have hw32 : wfm (mfl σ 0 1) := wfm_f (k := 0) hw (show (0 : Int) ≤ 1 ∧ 1 ≤ 2 by omega)
            exact hw32
          · split
            · have b_5_1 := misType_t (σ := _) (c := t) (by assumption)
              have b_12_4 := misTag_t (σ := _) (c := v) (by assumption)
              have hw14 : wfm (mfl σ 0 0) := wfm_f (k := 0) hw (show (0 : Int) ≤ 0 ∧ 0 ≤ 2 by omega)
              have e_58 := hw.a3 t
              have hw17 : wfm (mfl (mfl σ 0 0) 0 2) := wfm_f (k := 0) hw14 (show (0 : Int) ≤ 2 ∧ 2 ≤ 2 by omega)
              exact hw17
            · split
              · split
                · have b_5_1 := misType_t (σ := _) (c := t) (by assumption)
                  have b_12_4 := misTag_t (σ := _) (c := v) (by assumption)
                  have hw14 : wfm (mfl σ 0 0) := wfm_f (k := 0) hw (show (0 : Int) ≤ 0 ∧ 0 ≤ 2 by omega)
                  have e_58 := hw.a3 t
                  have hw24 : wfm (mfl (mfl σ 0 0) 0 2) := wfm_f (k := 0) hw14 (show (0 : Int) ≤ 2 ∧ 2 ≤ 2 by omega)
                  exact hw24
                · split
                  · have b_5_1 := misType_t (σ := _) (c := t) (by assumption)
                    have b_12_4 := misTag_t (σ := _) (c := v) (by assumption)
                    have hw14 : wfm (mfl σ 0 0) := wfm_f (k := 0) hw (show (0 : Int) ≤ 0 ∧ 0 ≤ 2 by omega)
                    have e_58 := hw.a3 t
                    have hw27 : wfm (mfl (mfl σ 0 0) 0 0) := wfm_f (k := 0) hw14 (show (0 : Int) ≤ 0 ∧ 0 ≤ 2 by omega)
                    have hw29 : wfm (c_madd (mfl (mfl σ 0 0) 0 0) t v b c).2 := w_madd hw27 (by omega) (by omega) (by omega) (by omega) (by first | omega | (simp only [mfl, mar, upF]; omega) | (simp [mfl, mar, upF]; omega))
                    have r_107 := r_madd (t := t) (v := v) (b := b) (c := c) hw27 (by omega) (by omega) (by omega) (by omega) (by first | omega | (simp only [mfl, mar, upF]; omega) | (simp [mfl, mar, upF]; omega))
                    exact hw29
                  · have b_5_1 := misType_t (σ := _) (c := t) (by assumption)
                    have b_12_4 := misTag_t (σ := _) (c := v) (by assumption)
                    have hw14 : wfm (mfl σ 0 0) := wfm_f (k := 0) hw (show (0 : Int) ≤ 0 ∧ 0 ≤ 2 by omega)
                    have e_58 := hw.a3 t
                    have hw30 : wfm (mfl (mfl σ 0 0) 0 2) := wfm_f (k := 0) hw14 (show (0 : Int) ≤ 2 ∧ 2 ≤ 2 by omega)
                    exact hw30
              · have b_5_1 := misType_t (σ := _) (c := t) (by assumption)
                have b_12_4 := misTag_t (σ := _) (c := v) (by assumption)
                have hw14 : wfm (mfl σ 0 0) := wfm_f (k := 0) hw (show (0 : Int) ≤ 0 ∧ 0 ≤ 2 by omega)
                have e_58 := hw.a3 t
                have hw20 : wfm (mfl (mfl σ 0 0) 0 0) := wfm_f (k := 0) hw14 (show (0 : Int) ≤ 0 ∧ 0 ≤ 2 by omega)
                have hw22 : wfm (c_madd (mfl (mfl σ 0 0) 0 0) t v b c).2 := w_madd hw20 (by omega) (by omega) (by omega) (by omega) (by first | omega | (simp only [mfl, mar, upF]; omega) | (simp [mfl, mar, upF]; omega))
                have r_107 := r_madd (t := t) (v := v) (b := b) (c := c) hw20 (by omega) (by omega) (by omega) (by omega) (by first | omega | (simp only [mfl, mar, upF]; omega) | (simp [mfl, mar, upF]; omega))
                exact hw22
    · have b_5_1 := misType_t (σ := _) (c := t) (by assumption)
      have hw5 : wfm (mfl σ 0 1) := wfm_f (k := 0) hw (show (0 : Int) ≤ 1 ∧ 1 ≤ 2 by omega)
      exact hw5
  · have hw2 : wfm (mfl σ 0 1) := wfm_f (k := 0) hw (show (0 : Int) ≤ 1 ∧ 1 ≤ 2 by omega)
    exact hw2
def c_mopen (σ : mS) (t : Int) (b : Int) (c : Int) : Int × mS := (if (c_misType σ t) = true then (if c < 1 then (0, (mfl σ 0 1)) else (if c ≤ 99 then (if (mat (σ.2 3) t) = 24 then (0, (mfl (mfl σ 0 0) 0 2)) else (if (c_mopenGroups (mfl σ 0 0) t) = 3 then (0, (mfl (mfl σ 0 0) 0 2)) else (if (c_misBare (mfl σ 0 0) t) = true then (0, (mfl (mfl σ 0 0) 0 2)) else ((c_madd (mfl (mfl σ 0 0) 0 0) t 0 b c).1, (mar (c_madd (mfl (mfl σ 0 0) 0 0) t 0 b c).2 8 t ((c_madd (mfl (mfl σ 0 0) 0 0) t 0 b c).1 - 1)))))) else (0, (mfl σ 0 1)))) else (0, (mfl σ 0 1)))
theorem t_mopen {l : Launch} {G : jG} {d : Nat} {σ : mS} {t : Int} {b : Int} {c : Int} (hw : wfm σ) (hd : 2 ≤ d) (ht : rg t) (hb : 0 ≤ b ∧ b ≤ 1) (hc : rg c) (hx : 0 ≤ t ∧ t ≤ 3 → mat (σ.2 8) t < mat (σ.2 3) t ∧ ∀ q : Int, 0 ≤ q → q < mat (σ.2 3) t → mat (σ.2 7) ((24 * t) + q) < q) : CJ jMod mown l G (Yx mX7_open) d 0 0 0 [some (.ref 116), some (vi t), some (vi b), some (vi c), none] [] σ (det (some (vi (c_mopen σ t b c).1)) (c_mopen σ t b c).2) := by
  refine C_aload_n dX7_open_0 rfl ?_
  refine C_iload_n dX7_open_1 rfl ?_
  refine D_callS (As := [vi _]) (d' := 0) (t_misType hw (Nat.le_refl _) (by omega)) dX7_open_2 s_X7_122 rfl (Nat.le_of_ble_eq_true rfl) (by omega) (Nat.le_of_ble_eq_true rfl) ?_
  simp only [Option.toList, List.nil_append, List.cons_append]
  refine C_if_eqZ (tgt := 19) dX7_open_5 (by decide) (fun c_5 => ?_) (fun c_5 => ?_)
  · refine C_iconst dX7_open_19 ?_
    refine C_goto (tgt := 24) dX7_open_20 (by decide) ?_
    refine C_put (σ' := (mfl σ 0 1)) dX7_open_24 f_X7_102 jfit_i mown_0 (fun h hc => hc.pf0) ?_
    have hw2 : wfm (mfl σ 0 1) := wfm_f (k := 0) hw (show (0 : Int) ≤ 1 ∧ 1 ≤ 2 by omega)
    refine C_aload_n dX7_open_27 rfl ?_
    refine C_get (v := vi 1) dX7_open_28 f_X7_102 (fun h hc => ⟨_, hc.1, congrArg (fun z => some (vi z)) (show ((mfl σ 0 1).1 0) = 1 by simp [mfl, mar, upF])⟩) ?_
    refine C_if_le (tgt := 36) dX7_open_31 (by decide) (by omega) (fun c_31 => absurd c_31 (by omega)) (fun c_31 => ?_)
    refine C_iconst dX7_open_34 ?_
    refine C_iret dX7_open_35 rfl ?_
    unfold det; rw [c_mopen, if_neg (by rw [c_5]; decide)]; exact ⟨rfl, rfl⟩
  · have b_5_1 := misType_t (σ := _) (c := t) (by assumption)
    refine C_iload_n dX7_open_8 rfl ?_
    refine C_iconst dX7_open_9 ?_
    refine C_icmp_lt (tgt := 19) dX7_open_10 (by decide) (by omega) (by omega) (fun c_10 => ?_) (fun c_10 => ?_)
    · refine C_iconst dX7_open_19 ?_
      refine C_goto (tgt := 24) dX7_open_20 (by decide) ?_
      refine C_put (σ' := (mfl σ 0 1)) dX7_open_24 f_X7_102 jfit_i mown_0 (fun h hc => hc.pf0) ?_
      have hw5 : wfm (mfl σ 0 1) := wfm_f (k := 0) hw (show (0 : Int) ≤ 1 ∧ 1 ≤ 2 by omega)
      refine C_aload_n dX7_open_27 rfl ?_
      refine C_get (v := vi 1) dX7_open_28 f_X7_102 (fun h hc => ⟨_, hc.1, congrArg (fun z => some (vi z)) (show ((mfl σ 0 1).1 0) = 1 by simp [mfl, mar, upF])⟩) ?_
      refine C_if_le (tgt := 36) dX7_open_31 (by decide) (by omega) (fun c_31 => absurd c_31 (by omega)) (fun c_31 => ?_)
      refine C_iconst dX7_open_34 ?_
      refine C_iret dX7_open_35 rfl ?_
      unfold det; rw [c_mopen, if_pos c_5, if_pos (by omega)]; exact ⟨rfl, rfl⟩
    · refine C_iload_n dX7_open_13 rfl ?_
      refine C_bipush dX7_open_14 (by decide) ?_
      refine C_icmp_le (tgt := 23) dX7_open_16 (by decide) (by omega) (by omega) (fun c_16 => ?_) (fun c_16 => ?_)
      · refine C_iconst dX7_open_23 ?_
        refine C_put (σ' := (mfl σ 0 0)) dX7_open_24 f_X7_102 jfit_i mown_0 (fun h hc => hc.pf0) ?_
        have hw8 : wfm (mfl σ 0 0) := wfm_f (k := 0) hw (show (0 : Int) ≤ 0 ∧ 0 ≤ 2 by omega)
        refine C_aload_n dX7_open_27 rfl ?_
        refine C_get (v := vi 0) dX7_open_28 f_X7_102 (fun h hc => ⟨_, hc.1, congrArg (fun z => some (vi z)) (show ((mfl σ 0 0).1 0) = 0 by simp [mfl, mar, upF])⟩) ?_
        refine C_if_le (tgt := 36) dX7_open_31 (by decide) (by omega) (fun c_31 => ?_) (fun c_31 => absurd c_31 (by omega))
        refine C_aload_n dX7_open_36 rfl ?_
        refine C_aload_n dX7_open_37 rfl ?_
        refine C_get (v := .ref 118) dX7_open_38 f_X7_13 (fun h hc => ⟨_, hc.1, rfl⟩) ?_
        refine C_iload_n dX7_open_41 rfl ?_
        refine C_iald (v := vi (mat (σ.2 3) t)) dX7_open_42 (by omega) (by omega) (fun h hc => (hc.rd3 hw8 (by omega) (by omega)).imp (fun vs q => ⟨q.1, q.2.trans (congrArg (fun z => some (vi (mat z t))) (show (mfl σ 0 0).2 3 = σ.2 3 by simp [mfl, mar, upF]))⟩)) ?_
        have e_42 := hw.a3 t
        refine C_bipush dX7_open_43 (by decide) ?_
        refine C_icmp_eq (tgt := 65) dX7_open_45 (by decide) (by omega) (by omega) (fun c_45 => ?_) (fun c_45 => ?_)
        · refine C_iconst dX7_open_65 ?_
          refine C_goto (tgt := 70) dX7_open_66 (by decide) ?_
          refine C_put (σ' := (mfl (mfl σ 0 0) 0 2)) dX7_open_70 f_X7_102 jfit_i mown_0 (fun h hc => hc.pf0) ?_
          have hw11 : wfm (mfl (mfl σ 0 0) 0 2) := wfm_f (k := 0) hw8 (show (0 : Int) ≤ 2 ∧ 2 ≤ 2 by omega)
          refine C_aload_n dX7_open_73 rfl ?_
          refine C_get (v := vi 2) dX7_open_74 f_X7_102 (fun h hc => ⟨_, hc.1, congrArg (fun z => some (vi z)) (show ((mfl (mfl σ 0 0) 0 2).1 0) = 2 by simp [mfl, mar, upF])⟩) ?_
          refine C_if_le (tgt := 82) dX7_open_77 (by decide) (by omega) (fun c_77 => absurd c_77 (by omega)) (fun c_77 => ?_)
          refine C_iconst dX7_open_80 ?_
          refine C_iret dX7_open_81 rfl ?_
          unfold det; rw [c_mopen, if_pos c_5, if_neg (by omega), if_pos (by omega), if_pos (by omega)]; exact ⟨rfl, rfl⟩
        · refine C_aload_n dX7_open_48 rfl ?_
          refine C_iload_n dX7_open_49 rfl ?_
          refine D_callV (As := [vi _]) (d' := 0) (t_mopenGroups hw8 (Nat.le_refl _) (by omega) (hx (by omega)).1 (hx (by omega)).2) dX7_open_50 v_X7_138 (fun h hc => ⟨_, hc.1⟩) rfl (Nat.le_of_ble_eq_true rfl) (by omega) (Nat.le_of_ble_eq_true rfl) ?_
          simp only [Option.toList, List.nil_append, List.cons_append]
          have r_50 := r_mopenGroups (t := t) hw8 (by omega) (hx (by omega)).1 (hx (by omega)).2
          refine C_iconst dX7_open_53 ?_
          refine C_icmp_eq (tgt := 65) dX7_open_54 (by decide) (by omega) (by omega) (fun c_54 => ?_) (fun c_54 => ?_)
          · refine C_iconst dX7_open_65 ?_
            refine C_goto (tgt := 70) dX7_open_66 (by decide) ?_
            refine C_put (σ' := (mfl (mfl σ 0 0) 0 2)) dX7_open_70 f_X7_102 jfit_i mown_0 (fun h hc => hc.pf0) ?_
            have hw14 : wfm (mfl (mfl σ 0 0) 0 2) := wfm_f (k := 0) hw8 (show (0 : Int) ≤ 2 ∧ 2 ≤ 2 by omega)
            refine C_aload_n dX7_open_73 rfl ?_
            refine C_get (v := vi 2) dX7_open_74 f_X7_102 (fun h hc => ⟨_, hc.1, congrArg (fun z => some (vi z)) (show ((mfl (mfl σ 0 0) 0 2).1 0) = 2 by simp [mfl, mar, upF])⟩) ?_
            refine C_if_le (tgt := 82) dX7_open_77 (by decide) (by omega) (fun c_77 => absurd c_77 (by omega)) (fun c_77 => ?_)
            refine C_iconst dX7_open_80 ?_
            refine C_iret dX7_open_81 rfl ?_
            unfold det; rw [c_mopen, if_pos c_5, if_neg (by omega), if_pos (by omega), if_neg (by omega), if_pos (by omega)]; exact ⟨rfl, rfl⟩
          · refine C_aload_n dX7_open_57 rfl ?_
            refine C_iload_n dX7_open_58 rfl ?_
            refine D_callV (As := [vi _]) (d' := 1) (t_misBare hw8 (Nat.le_refl _) (by omega)) dX7_open_59 v_X7_131 (fun h hc => ⟨_, hc.1⟩) rfl (Nat.le_of_ble_eq_true rfl) (by omega) (Nat.le_of_ble_eq_true rfl) ?_
            simp only [Option.toList, List.nil_append, List.cons_append]
            refine C_if_eqZ (tgt := 69) dX7_open_62 (by decide) (fun c_62 => ?_) (fun c_62 => ?_)
            · refine C_iconst dX7_open_69 ?_
              refine C_put (σ' := (mfl (mfl σ 0 0) 0 0)) dX7_open_70 f_X7_102 jfit_i mown_0 (fun h hc => hc.pf0) ?_
              have hw17 : wfm (mfl (mfl σ 0 0) 0 0) := wfm_f (k := 0) hw8 (show (0 : Int) ≤ 0 ∧ 0 ≤ 2 by omega)
              refine C_aload_n dX7_open_73 rfl ?_
              refine C_get (v := vi 0) dX7_open_74 f_X7_102 (fun h hc => ⟨_, hc.1, congrArg (fun z => some (vi z)) (show ((mfl (mfl σ 0 0) 0 0).1 0) = 0 by simp [mfl, mar, upF])⟩) ?_
              refine C_if_le (tgt := 82) dX7_open_77 (by decide) (by omega) (fun c_77 => ?_) (fun c_77 => absurd c_77 (by omega))
              refine C_aload_n dX7_open_82 rfl ?_
              refine C_iload_n dX7_open_83 rfl ?_
              refine C_iconst dX7_open_84 ?_
              refine C_iload_n dX7_open_85 rfl ?_
              refine C_iload_n dX7_open_86 rfl ?_
              refine D_callV (As := [vi _, vi _, vi _, vi _]) (d' := 0) (t_madd hw17 (Nat.le_refl _) (by omega) (by omega) (by omega) (by omega) (by first | omega | (simp only [mfl, mar, upF]; omega) | (simp [mfl, mar, upF]; omega))) dX7_open_87 v_X7_134 (fun h hc => ⟨_, hc.1⟩) rfl (Nat.le_of_ble_eq_true rfl) (by omega) (Nat.le_of_ble_eq_true rfl) ?_
              simp only [Option.toList, List.nil_append, List.cons_append]
              have hw19 : wfm (c_madd (mfl (mfl σ 0 0) 0 0) t 0 b c).2 := w_madd hw17 (by omega) (by omega) (by omega) (by omega) (by first | omega | (simp only [mfl, mar, upF]; omega) | (simp [mfl, mar, upF]; omega))
              have r_87 := r_madd (t := t) (v := 0) (b := b) (c := c) hw17 (by omega) (by omega) (by omega) (by omega) (by first | omega | (simp only [mfl, mar, upF]; omega) | (simp [mfl, mar, upF]; omega))
              refine C_istore dX7_open_90 (by decide) rfl ?_
              simp only [List.set_cons_zero, List.set_cons_succ, jfin0, jfin1, jfin2, jfin3]
              refine C_aload_n dX7_open_92 rfl ?_
              refine C_get (v := .ref 123) dX7_open_93 f_X7_29 (fun h hc => ⟨_, hc.1, rfl⟩) ?_
              refine C_iload_n dX7_open_96 rfl ?_
              refine C_iload dX7_open_97 rfl ?_
              refine C_iconst dX7_open_99 ?_
              refine C_isub dX7_open_100 ?_
              refine C_iast (σ' := (mar (c_madd (mfl (mfl σ 0 0) 0 0) t 0 b c).2 8 t ((c_madd (mfl (mfl σ 0 0) 0 0) t 0 b c).1 - 1))) dX7_open_101 (by omega) (by omega) mo8 (fun h hc => hc.st8 hw19 (by omega) (by omega)) ?_
              have hw20 : wfm (mar (c_madd (mfl (mfl σ 0 0) 0 0) t 0 b c).2 8 t ((c_madd (mfl (mfl σ 0 0) 0 0) t 0 b c).1 - 1)) := wfm_a (k := 8) hw19 (show (-1 : Int) ≤ ((c_madd (mfl (mfl σ 0 0) 0 0) t 0 b c).1 - 1) ∧ ((c_madd (mfl (mfl σ 0 0) 0 0) t 0 b c).1 - 1) ≤ 23 by omega)
              refine C_iload dX7_open_102 rfl ?_
              refine C_iret dX7_open_104 rfl ?_
              unfold det; rw [c_mopen, if_pos c_5, if_neg (by omega), if_pos (by omega), if_neg (by omega), if_neg (by omega), if_neg (by rw [c_62]; decide)]; exact ⟨rfl, rfl⟩
            · refine C_iconst dX7_open_65 ?_
              refine C_goto (tgt := 70) dX7_open_66 (by decide) ?_
              refine C_put (σ' := (mfl (mfl σ 0 0) 0 2)) dX7_open_70 f_X7_102 jfit_i mown_0 (fun h hc => hc.pf0) ?_
              have hw21 : wfm (mfl (mfl σ 0 0) 0 2) := wfm_f (k := 0) hw8 (show (0 : Int) ≤ 2 ∧ 2 ≤ 2 by omega)
              refine C_aload_n dX7_open_73 rfl ?_
              refine C_get (v := vi 2) dX7_open_74 f_X7_102 (fun h hc => ⟨_, hc.1, congrArg (fun z => some (vi z)) (show ((mfl (mfl σ 0 0) 0 2).1 0) = 2 by simp [mfl, mar, upF])⟩) ?_
              refine C_if_le (tgt := 82) dX7_open_77 (by decide) (by omega) (fun c_77 => absurd c_77 (by omega)) (fun c_77 => ?_)
              refine C_iconst dX7_open_80 ?_
              refine C_iret dX7_open_81 rfl ?_
              unfold det; rw [c_mopen, if_pos c_5, if_neg (by omega), if_pos (by omega), if_neg (by omega), if_neg (by omega), if_pos c_62]; exact ⟨rfl, rfl⟩
      · refine C_iconst dX7_open_19 ?_
        refine C_goto (tgt := 24) dX7_open_20 (by decide) ?_
        refine C_put (σ' := (mfl σ 0 1)) dX7_open_24 f_X7_102 jfit_i mown_0 (fun h hc => hc.pf0) ?_
        have hw23 : wfm (mfl σ 0 1) := wfm_f (k := 0) hw (show (0 : Int) ≤ 1 ∧ 1 ≤ 2 by omega)
        refine C_aload_n dX7_open_27 rfl ?_
        refine C_get (v := vi 1) dX7_open_28 f_X7_102 (fun h hc => ⟨_, hc.1, congrArg (fun z => some (vi z)) (show ((mfl σ 0 1).1 0) = 1 by simp [mfl, mar, upF])⟩) ?_
        refine C_if_le (tgt := 36) dX7_open_31 (by decide) (by omega) (fun c_31 => absurd c_31 (by omega)) (fun c_31 => ?_)
        refine C_iconst dX7_open_34 ?_
        refine C_iret dX7_open_35 rfl ?_
        unfold det; rw [c_mopen, if_pos c_5, if_neg (by omega), if_neg (by omega)]; exact ⟨rfl, rfl⟩
theorem r_mopen {σ : mS} {t : Int} {b : Int} {c : Int} (hw : wfm σ) (ht : rg t) (hb : 0 ≤ b ∧ b ≤ 1) (hc : rg c) (hx : 0 ≤ t ∧ t ≤ 3 → mat (σ.2 8) t < mat (σ.2 3) t ∧ ∀ q : Int, 0 ≤ q → q < mat (σ.2 3) t → mat (σ.2 7) ((24 * t) + q) < q) : 0 ≤ (c_mopen σ t b c).1 ∧ (c_mopen σ t b c).1 < 25 := by
  unfold c_mopen
  split
  · split
    · have b_5_1 := misType_t (σ := _) (c := t) (by assumption)
      have hw5 : wfm (mfl σ 0 1) := wfm_f (k := 0) hw (show (0 : Int) ≤ 1 ∧ 1 ≤ 2 by omega)
      omega
    · split
      · split
        · have b_5_1 := misType_t (σ := _) (c := t) (by assumption)
          have hw8 : wfm (mfl σ 0 0) := wfm_f (k := 0) hw (show (0 : Int) ≤ 0 ∧ 0 ≤ 2 by omega)
          have e_42 := hw.a3 t
          have hw11 : wfm (mfl (mfl σ 0 0) 0 2) := wfm_f (k := 0) hw8 (show (0 : Int) ≤ 2 ∧ 2 ≤ 2 by omega)
          omega
        · split
          · have b_5_1 := misType_t (σ := _) (c := t) (by assumption)
            have hw8 : wfm (mfl σ 0 0) := wfm_f (k := 0) hw (show (0 : Int) ≤ 0 ∧ 0 ≤ 2 by omega)
            have e_42 := hw.a3 t
            have r_50 := r_mopenGroups (t := t) hw8 (by omega) (hx (by omega)).1 (hx (by omega)).2
            have hw14 : wfm (mfl (mfl σ 0 0) 0 2) := wfm_f (k := 0) hw8 (show (0 : Int) ≤ 2 ∧ 2 ≤ 2 by omega)
            omega
          · split
            · have b_5_1 := misType_t (σ := _) (c := t) (by assumption)
              have hw8 : wfm (mfl σ 0 0) := wfm_f (k := 0) hw (show (0 : Int) ≤ 0 ∧ 0 ≤ 2 by omega)
              have e_42 := hw.a3 t
              have r_50 := r_mopenGroups (t := t) hw8 (by omega) (hx (by omega)).1 (hx (by omega)).2
              have hw21 : wfm (mfl (mfl σ 0 0) 0 2) := wfm_f (k := 0) hw8 (show (0 : Int) ≤ 2 ∧ 2 ≤ 2 by omega)
              omega
            · have b_5_1 := misType_t (σ := _) (c := t) (by assumption)
              have hw8 : wfm (mfl σ 0 0) := wfm_f (k := 0) hw (show (0 : Int) ≤ 0 ∧ 0 ≤ 2 by omega)
              have e_42 := hw.a3 t
              have r_50 := r_mopenGroups (t := t) hw8 (by omega) (hx (by omega)).1 (hx (by omega)).2
              have hw17 : wfm (mfl (mfl σ 0 0) 0 0) := wfm_f (k := 0) hw8 (show (0 : Int) ≤ 0 ∧ 0 ≤ 2 by omega)
              have hw19 : wfm (c_madd (mfl (mfl σ 0 0) 0 0) t 0 b c).2 := w_madd hw17 (by omega) (by omega) (by omega) (by omega) (by first | omega | (simp only [mfl, mar, upF]; omega) | (simp [mfl, mar, upF]; omega))
              have r_87 := r_madd (t := t) (v := 0) (b := b) (c := c) hw17 (by omega) (by omega) (by omega) (by omega) (by first | omega | (simp only [mfl, mar, upF]; omega) | (simp [mfl, mar, upF]; omega))
              have hw20 : wfm (mar (c_madd (mfl (mfl σ 0 0) 0 0) t 0 b c).2 8 t ((c_madd (mfl (mfl σ 0 0) 0 0) t 0 b c).1 - 1)) := wfm_a (k := 8) hw19 (show (-1 : Int) ≤ ((c_madd (mfl (mfl σ 0 0) 0 0) t 0 b c).1 - 1) ∧ ((c_madd (mfl (mfl σ 0 0) 0 0) t 0 b c).1 - 1) ≤ 23 by omega)
              omega
      · have b_5_1 := misType_t (σ := _) (c := t) (by assumption)
        have hw23 : wfm (mfl σ 0 1) := wfm_f (k := 0) hw (show (0 : Int) ≤ 1 ∧ 1 ≤ 2 by omega)
        omega
  · have hw2 : wfm (mfl σ 0 1) := wfm_f (k := 0) hw (show (0 : Int) ≤ 1 ∧ 1 ≤ 2 by omega)
    omega
theorem w_mopen {σ : mS} {t : Int} {b : Int} {c : Int} (hw : wfm σ) (ht : rg t) (hb : 0 ≤ b ∧ b ≤ 1) (hc : rg c) (hx : 0 ≤ t ∧ t ≤ 3 → mat (σ.2 8) t < mat (σ.2 3) t ∧ ∀ q : Int, 0 ≤ q → q < mat (σ.2 3) t → mat (σ.2 7) ((24 * t) + q) < q) : wfm (c_mopen σ t b c).2 := by
  unfold c_mopen
  split
  · split
    · have b_5_1 := misType_t (σ := _) (c := t) (by assumption)
      have hw5 : wfm (mfl σ 0 1) := wfm_f (k := 0) hw (show (0 : Int) ≤ 1 ∧ 1 ≤ 2 by omega)
      exact hw5
    · split
      · split
        · have b_5_1 := misType_t (σ := _) (c := t) (by assumption)
          have hw8 : wfm (mfl σ 0 0) := wfm_f (k := 0) hw (show (0 : Int) ≤ 0 ∧ 0 ≤ 2 by omega)
          have e_42 := hw.a3 t
          have hw11 : wfm (mfl (mfl σ 0 0) 0 2) := wfm_f (k := 0) hw8 (show (0 : Int) ≤ 2 ∧ 2 ≤ 2 by omega)
          exact hw11
        · split
          · have b_5_1 := misType_t (σ := _) (c := t) (by assumption)
            have hw8 : wfm (mfl σ 0 0) := wfm_f (k := 0) hw (show (0 : Int) ≤ 0 ∧ 0 ≤ 2 by omega)
            have e_42 := hw.a3 t
            have r_50 := r_mopenGroups (t := t) hw8 (by omega) (hx (by omega)).1 (hx (by omega)).2
            have hw14 : wfm (mfl (mfl σ 0 0) 0 2) := wfm_f (k := 0) hw8 (show (0 : Int) ≤ 2 ∧ 2 ≤ 2 by omega)
            exact hw14
          · split
            · have b_5_1 := misType_t (σ := _) (c := t) (by assumption)
              have hw8 : wfm (mfl σ 0 0) := wfm_f (k := 0) hw (show (0 : Int) ≤ 0 ∧ 0 ≤ 2 by omega)
              have e_42 := hw.a3 t
              have r_50 := r_mopenGroups (t := t) hw8 (by omega) (hx (by omega)).1 (hx (by omega)).2
              have hw21 : wfm (mfl (mfl σ 0 0) 0 2) := wfm_f (k := 0) hw8 (show (0 : Int) ≤ 2 ∧ 2 ≤ 2 by omega)
              exact hw21
            · have b_5_1 := misType_t (σ := _) (c := t) (by assumption)
              have hw8 : wfm (mfl σ 0 0) := wfm_f (k := 0) hw (show (0 : Int) ≤ 0 ∧ 0 ≤ 2 by omega)
              have e_42 := hw.a3 t
              have r_50 := r_mopenGroups (t := t) hw8 (by omega) (hx (by omega)).1 (hx (by omega)).2
              have hw17 : wfm (mfl (mfl σ 0 0) 0 0) := wfm_f (k := 0) hw8 (show (0 : Int) ≤ 0 ∧ 0 ≤ 2 by omega)
              have hw19 : wfm (c_madd (mfl (mfl σ 0 0) 0 0) t 0 b c).2 := w_madd hw17 (by omega) (by omega) (by omega) (by omega) (by first | omega | (simp only [mfl, mar, upF]; omega) | (simp [mfl, mar, upF]; omega))
              have r_87 := r_madd (t := t) (v := 0) (b := b) (c := c) hw17 (by omega) (by omega) (by omega) (by omega) (by first | omega | (simp only [mfl, mar, upF]; omega) | (simp [mfl, mar, upF]; omega))
              have hw20 : wfm (mar (c_madd (mfl (mfl σ 0 0) 0 0) t 0 b c).2 8 t ((c_madd (mfl (mfl σ 0 0) 0 0) t 0 b c).1 - 1)) := wfm_a (k := 8) hw19 (show (-1 : Int) ≤ ((c_madd (mfl (mfl σ 0 0) 0 0) t 0 b c).1 - 1) ∧ ((c_madd (mfl (mfl σ 0 0) 0 0) t 0 b c).1 - 1) ≤ 23 by omega)
              exact hw20
      · have b_5_1 := misType_t (σ := _) (c := t) (by assumption)
        have hw23 : wfm (mfl σ 0 1) := wfm_f (k := 0) hw (show (0 : Int) ≤ 1 ∧ 1 ≤ 2 by omega)
        exact hw23
  · have hw2 : wfm (mfl σ 0 1) := wfm_f (k := 0) hw (show (0 : Int) ≤ 1 ∧ 1 ≤ 2 by omega)
    exact hw2
def c_mclose (σ : mS) (t : Int) : Bool × mS := (if (c_misType σ t) = true then (if 0 ≤ (mat (σ.2 8) t) then (if (c_misBare (mfl σ 0 0) t) = true then (false, (mfl σ 0 0)) else (true, (mar (mfl σ 0 0) 8 t (mat (σ.2 7) ((24 * t) + (mat (σ.2 8) t)))))) else (false, (mfl σ 0 0))) else (false, (mfl σ 0 1)))
theorem t_mclose {l : Launch} {G : jG} {d : Nat} {σ : mS} {t : Int} (hw : wfm σ) (hd : 2 ≤ d) (ht : rg t) : CJ jMod mown l G (Yx mX7_close) d 0 0 0 [some (.ref 116), some (vi t)] [] σ (det (some (vi (bz (c_mclose σ t).1))) (c_mclose σ t).2) := by
  refine C_aload_n dX7_close_0 rfl ?_
  refine C_iload_n dX7_close_1 rfl ?_
  refine D_callS (As := [vi _]) (d' := 0) (t_misType hw (Nat.le_refl _) (by omega)) dX7_close_2 s_X7_122 rfl (Nat.le_of_ble_eq_true rfl) (by omega) (Nat.le_of_ble_eq_true rfl) ?_
  simp only [Option.toList, List.nil_append, List.cons_append]
  refine C_if_eqZ (tgt := 12) dX7_close_5 (by decide) (fun c_5 => ?_) (fun c_5 => ?_)
  · refine C_iconst dX7_close_12 ?_
    refine C_put (σ' := (mfl σ 0 1)) dX7_close_13 f_X7_102 jfit_i mown_0 (fun h hc => hc.pf0) ?_
    have hw2 : wfm (mfl σ 0 1) := wfm_f (k := 0) hw (show (0 : Int) ≤ 1 ∧ 1 ≤ 2 by omega)
    refine C_aload_n dX7_close_16 rfl ?_
    refine C_get (v := vi 1) dX7_close_17 f_X7_102 (fun h hc => ⟨_, hc.1, congrArg (fun z => some (vi z)) (show ((mfl σ 0 1).1 0) = 1 by simp [mfl, mar, upF])⟩) ?_
    refine C_if_gt (tgt := 43) dX7_close_20 (by decide) (by omega) (fun c_20 => ?_) (fun c_20 => absurd c_20 (by omega))
    refine C_iconst dX7_close_43 ?_
    refine C_zret dX7_close_44 rfl (by first | exact Or.inl rfl | exact Or.inr rfl | exact bz_01 _) ?_
    unfold det; rw [c_mclose, if_neg (by rw [c_5]; decide)]; exact ⟨rfl, rfl⟩
  · have b_5_1 := misType_t (σ := _) (c := t) (by assumption)
    refine C_iconst dX7_close_8 ?_
    refine C_goto (tgt := 13) dX7_close_9 (by decide) ?_
    refine C_put (σ' := (mfl σ 0 0)) dX7_close_13 f_X7_102 jfit_i mown_0 (fun h hc => hc.pf0) ?_
    have hw4 : wfm (mfl σ 0 0) := wfm_f (k := 0) hw (show (0 : Int) ≤ 0 ∧ 0 ≤ 2 by omega)
    refine C_aload_n dX7_close_16 rfl ?_
    refine C_get (v := vi 0) dX7_close_17 f_X7_102 (fun h hc => ⟨_, hc.1, congrArg (fun z => some (vi z)) (show ((mfl σ 0 0).1 0) = 0 by simp [mfl, mar, upF])⟩) ?_
    refine C_if_gt (tgt := 43) dX7_close_20 (by decide) (by omega) (fun c_20 => absurd c_20 (by omega)) (fun c_20 => ?_)
    refine C_aload_n dX7_close_23 rfl ?_
    refine C_get (v := .ref 123) dX7_close_24 f_X7_29 (fun h hc => ⟨_, hc.1, rfl⟩) ?_
    refine C_aload_n dX7_close_27 rfl ?_
    refine C_get (v := vi 0) dX7_close_28 f_X7_102 (fun h hc => ⟨_, hc.1, congrArg (fun z => some (vi z)) (show ((mfl σ 0 0).1 0) = 0 by simp [mfl, mar, upF])⟩) ?_
    refine C_if_le (tgt := 38) dX7_close_31 (by decide) (by omega) (fun c_31 => ?_) (fun c_31 => absurd c_31 (by omega))
    refine C_iload_n dX7_close_38 rfl ?_
    refine C_iald (v := vi (mat (σ.2 8) t)) dX7_close_39 (by omega) (by omega) (fun h hc => (hc.rd8 hw4 (by omega) (by omega)).imp (fun vs q => ⟨q.1, q.2.trans (congrArg (fun z => some (vi (mat z t))) (show (mfl σ 0 0).2 8 = σ.2 8 by simp [mfl, mar, upF]))⟩)) ?_
    have e_39 := hw.a8 t
    refine C_if_ge (tgt := 45) dX7_close_40 (by decide) (by omega) (fun c_40 => ?_) (fun c_40 => ?_)
    · refine C_aload_n dX7_close_45 rfl ?_
      refine C_iload_n dX7_close_46 rfl ?_
      refine D_callV (As := [vi _]) (d' := 1) (t_misBare hw4 (Nat.le_refl _) (by omega)) dX7_close_47 v_X7_131 (fun h hc => ⟨_, hc.1⟩) rfl (Nat.le_of_ble_eq_true rfl) (by omega) (Nat.le_of_ble_eq_true rfl) ?_
      simp only [Option.toList, List.nil_append, List.cons_append]
      refine C_if_eqZ (tgt := 55) dX7_close_50 (by decide) (fun c_50 => ?_) (fun c_50 => ?_)
      · refine C_aload_n dX7_close_55 rfl ?_
        refine C_get (v := .ref 123) dX7_close_56 f_X7_29 (fun h hc => ⟨_, hc.1, rfl⟩) ?_
        refine C_iload_n dX7_close_59 rfl ?_
        refine C_aload_n dX7_close_60 rfl ?_
        refine C_get (v := .ref 122) dX7_close_61 f_X7_26 (fun h hc => ⟨_, hc.1, rfl⟩) ?_
        refine C_bipush dX7_close_64 (by decide) ?_
        refine C_iload_n dX7_close_66 rfl ?_
        refine C_imul dX7_close_67 ?_
        refine C_aload_n dX7_close_68 rfl ?_
        refine C_get (v := .ref 123) dX7_close_69 f_X7_29 (fun h hc => ⟨_, hc.1, rfl⟩) ?_
        refine C_iload_n dX7_close_72 rfl ?_
        refine C_iald (v := vi (mat (σ.2 8) t)) dX7_close_73 (by omega) (by omega) (fun h hc => (hc.rd8 hw4 (by omega) (by omega)).imp (fun vs q => ⟨q.1, q.2.trans (congrArg (fun z => some (vi (mat z t))) (show (mfl σ 0 0).2 8 = σ.2 8 by simp [mfl, mar, upF]))⟩)) ?_
        have e_73 := hw.a8 t
        refine C_iadd dX7_close_74 ?_
        refine C_iald (v := vi (mat (σ.2 7) ((24 * t) + (mat (σ.2 8) t)))) dX7_close_75 (by omega) (by omega) (fun h hc => (hc.rd7 hw4 (by omega) (by omega)).imp (fun vs q => ⟨q.1, q.2.trans (congrArg (fun z => some (vi (mat z ((24 * t) + (mat (σ.2 8) t))))) (show (mfl σ 0 0).2 7 = σ.2 7 by simp [mfl, mar, upF]))⟩)) ?_
        have e_75 := hw.a7 ((24 * t) + (mat (σ.2 8) t))
        refine C_iast (σ' := (mar (mfl σ 0 0) 8 t (mat (σ.2 7) ((24 * t) + (mat (σ.2 8) t))))) dX7_close_76 (by omega) (by omega) mo8 (fun h hc => hc.st8 hw4 (by omega) (by omega)) ?_
        have hw9 : wfm (mar (mfl σ 0 0) 8 t (mat (σ.2 7) ((24 * t) + (mat (σ.2 8) t)))) := wfm_a (k := 8) hw4 (show (-1 : Int) ≤ (mat (σ.2 7) ((24 * t) + (mat (σ.2 8) t))) ∧ (mat (σ.2 7) ((24 * t) + (mat (σ.2 8) t))) ≤ 23 by omega)
        refine C_iconst dX7_close_77 ?_
        refine C_zret dX7_close_78 rfl (by first | exact Or.inl rfl | exact Or.inr rfl | exact bz_01 _) ?_
        unfold det; rw [c_mclose, if_pos c_5, if_pos (by omega), if_neg (by rw [c_50]; decide)]; exact ⟨rfl, rfl⟩
      · refine C_iconst dX7_close_53 ?_
        refine C_zret dX7_close_54 rfl (by first | exact Or.inl rfl | exact Or.inr rfl | exact bz_01 _) ?_
        unfold det; rw [c_mclose, if_pos c_5, if_pos (by omega), if_pos c_50]; exact ⟨rfl, rfl⟩
    · refine C_iconst dX7_close_43 ?_
      refine C_zret dX7_close_44 rfl (by first | exact Or.inl rfl | exact Or.inr rfl | exact bz_01 _) ?_
      unfold det; rw [c_mclose, if_pos c_5, if_neg (by omega)]; exact ⟨rfl, rfl⟩
theorem w_mclose {σ : mS} {t : Int} (hw : wfm σ) (ht : rg t) : wfm (c_mclose σ t).2 := by
  unfold c_mclose
  split
  · split
    · split
      · have b_5_1 := misType_t (σ := _) (c := t) (by assumption)
        have hw4 : wfm (mfl σ 0 0) := wfm_f (k := 0) hw (show (0 : Int) ≤ 0 ∧ 0 ≤ 2 by omega)
        have e_39 := hw.a8 t
        exact hw4
      · have b_5_1 := misType_t (σ := _) (c := t) (by assumption)
        have hw4 : wfm (mfl σ 0 0) := wfm_f (k := 0) hw (show (0 : Int) ≤ 0 ∧ 0 ≤ 2 by omega)
        have e_39 := hw.a8 t
        have e_73 := hw.a8 t
        have e_75 := hw.a7 ((24 * t) + (mat (σ.2 8) t))
        have hw9 : wfm (mar (mfl σ 0 0) 8 t (mat (σ.2 7) ((24 * t) + (mat (σ.2 8) t)))) := wfm_a (k := 8) hw4 (show (-1 : Int) ≤ (mat (σ.2 7) ((24 * t) + (mat (σ.2 8) t))) ∧ (mat (σ.2 7) ((24 * t) + (mat (σ.2 8) t))) ≤ 23 by omega)
        exact hw9
    · have b_5_1 := misType_t (σ := _) (c := t) (by assumption)
      have hw4 : wfm (mfl σ 0 0) := wfm_f (k := 0) hw (show (0 : Int) ≤ 0 ∧ 0 ≤ 2 by omega)
      have e_39 := hw.a8 t
      exact hw4
  · have hw2 : wfm (mfl σ 0 1) := wfm_f (k := 0) hw (show (0 : Int) ≤ 1 ∧ 1 ≤ 2 by omega)
    exact hw2
def c_mclear (σ : mS) (t : Int) : Bool × mS := (if (c_misType σ t) = true then (if (mat (σ.2 3) t) = 0 then (false, (mfl σ 0 0)) else (true, (mar (mar (mfl σ 0 0) 3 t 0) 8 t (-1)))) else (false, (mfl σ 0 1)))
theorem t_mclear {l : Launch} {G : jG} {d : Nat} {σ : mS} {t : Int} (hw : wfm σ) (hd : 1 ≤ d) (ht : rg t) : CJ jMod mown l G (Yx mX7_clear) d 0 0 0 [some (.ref 116), some (vi t)] [] σ (det (some (vi (bz (c_mclear σ t).1))) (c_mclear σ t).2) := by
  refine C_aload_n dX7_clear_0 rfl ?_
  refine C_iload_n dX7_clear_1 rfl ?_
  refine D_callS (As := [vi _]) (d' := 0) (t_misType hw (Nat.le_refl _) (by omega)) dX7_clear_2 s_X7_122 rfl (Nat.le_of_ble_eq_true rfl) (by omega) (Nat.le_of_ble_eq_true rfl) ?_
  simp only [Option.toList, List.nil_append, List.cons_append]
  refine C_if_eqZ (tgt := 12) dX7_clear_5 (by decide) (fun c_5 => ?_) (fun c_5 => ?_)
  · refine C_iconst dX7_clear_12 ?_
    refine C_put (σ' := (mfl σ 0 1)) dX7_clear_13 f_X7_102 jfit_i mown_0 (fun h hc => hc.pf0) ?_
    have hw2 : wfm (mfl σ 0 1) := wfm_f (k := 0) hw (show (0 : Int) ≤ 1 ∧ 1 ≤ 2 by omega)
    refine C_aload_n dX7_clear_16 rfl ?_
    refine C_get (v := vi 1) dX7_clear_17 f_X7_102 (fun h hc => ⟨_, hc.1, congrArg (fun z => some (vi z)) (show ((mfl σ 0 1).1 0) = 1 by simp [mfl, mar, upF])⟩) ?_
    refine C_if_gt (tgt := 43) dX7_clear_20 (by decide) (by omega) (fun c_20 => ?_) (fun c_20 => absurd c_20 (by omega))
    refine C_iconst dX7_clear_43 ?_
    refine C_zret dX7_clear_44 rfl (by first | exact Or.inl rfl | exact Or.inr rfl | exact bz_01 _) ?_
    unfold det; rw [c_mclear, if_neg (by rw [c_5]; decide)]; exact ⟨rfl, rfl⟩
  · have b_5_1 := misType_t (σ := _) (c := t) (by assumption)
    refine C_iconst dX7_clear_8 ?_
    refine C_goto (tgt := 13) dX7_clear_9 (by decide) ?_
    refine C_put (σ' := (mfl σ 0 0)) dX7_clear_13 f_X7_102 jfit_i mown_0 (fun h hc => hc.pf0) ?_
    have hw4 : wfm (mfl σ 0 0) := wfm_f (k := 0) hw (show (0 : Int) ≤ 0 ∧ 0 ≤ 2 by omega)
    refine C_aload_n dX7_clear_16 rfl ?_
    refine C_get (v := vi 0) dX7_clear_17 f_X7_102 (fun h hc => ⟨_, hc.1, congrArg (fun z => some (vi z)) (show ((mfl σ 0 0).1 0) = 0 by simp [mfl, mar, upF])⟩) ?_
    refine C_if_gt (tgt := 43) dX7_clear_20 (by decide) (by omega) (fun c_20 => absurd c_20 (by omega)) (fun c_20 => ?_)
    refine C_aload_n dX7_clear_23 rfl ?_
    refine C_get (v := .ref 118) dX7_clear_24 f_X7_13 (fun h hc => ⟨_, hc.1, rfl⟩) ?_
    refine C_aload_n dX7_clear_27 rfl ?_
    refine C_get (v := vi 0) dX7_clear_28 f_X7_102 (fun h hc => ⟨_, hc.1, congrArg (fun z => some (vi z)) (show ((mfl σ 0 0).1 0) = 0 by simp [mfl, mar, upF])⟩) ?_
    refine C_if_le (tgt := 38) dX7_clear_31 (by decide) (by omega) (fun c_31 => ?_) (fun c_31 => absurd c_31 (by omega))
    refine C_iload_n dX7_clear_38 rfl ?_
    refine C_iald (v := vi (mat (σ.2 3) t)) dX7_clear_39 (by omega) (by omega) (fun h hc => (hc.rd3 hw4 (by omega) (by omega)).imp (fun vs q => ⟨q.1, q.2.trans (congrArg (fun z => some (vi (mat z t))) (show (mfl σ 0 0).2 3 = σ.2 3 by simp [mfl, mar, upF]))⟩)) ?_
    have e_39 := hw.a3 t
    refine C_if_ne (tgt := 45) dX7_clear_40 (by decide) (by omega) (fun c_40 => ?_) (fun c_40 => ?_)
    · refine C_aload_n dX7_clear_45 rfl ?_
      refine C_get (v := .ref 118) dX7_clear_46 f_X7_13 (fun h hc => ⟨_, hc.1, rfl⟩) ?_
      refine C_iload_n dX7_clear_49 rfl ?_
      refine C_iconst dX7_clear_50 ?_
      refine C_iast (σ' := (mar (mfl σ 0 0) 3 t 0)) dX7_clear_51 (by omega) (by omega) mo3 (fun h hc => hc.st3 hw4 (by omega) (by omega)) ?_
      have hw8 : wfm (mar (mfl σ 0 0) 3 t 0) := wfm_a (k := 3) hw4 (show (0 : Int) ≤ 0 ∧ 0 ≤ 24 by omega)
      refine C_aload_n dX7_clear_52 rfl ?_
      refine C_get (v := .ref 123) dX7_clear_53 f_X7_29 (fun h hc => ⟨_, hc.1, rfl⟩) ?_
      refine C_iload_n dX7_clear_56 rfl ?_
      refine C_iconst dX7_clear_57 ?_
      refine C_iast (σ' := (mar (mar (mfl σ 0 0) 3 t 0) 8 t (-1))) dX7_clear_58 (by omega) (by omega) mo8 (fun h hc => hc.st8 hw8 (by omega) (by omega)) ?_
      have hw9 : wfm (mar (mar (mfl σ 0 0) 3 t 0) 8 t (-1)) := wfm_a (k := 8) hw8 (show (-1 : Int) ≤ (-1) ∧ (-1) ≤ 23 by omega)
      refine C_iconst dX7_clear_59 ?_
      refine C_zret dX7_clear_60 rfl (by first | exact Or.inl rfl | exact Or.inr rfl | exact bz_01 _) ?_
      unfold det; rw [c_mclear, if_pos c_5, if_neg (by omega)]; exact ⟨rfl, rfl⟩
    · refine C_iconst dX7_clear_43 ?_
      refine C_zret dX7_clear_44 rfl (by first | exact Or.inl rfl | exact Or.inr rfl | exact bz_01 _) ?_
      unfold det; rw [c_mclear, if_pos c_5, if_pos (by omega)]; exact ⟨rfl, rfl⟩
theorem w_mclear {σ : mS} {t : Int} (hw : wfm σ) (ht : rg t) : wfm (c_mclear σ t).2 := by
  unfold c_mclear
  split
  · split
    · have b_5_1 := misType_t (σ := _) (c := t) (by assumption)
      have hw4 : wfm (mfl σ 0 0) := wfm_f (k := 0) hw (show (0 : Int) ≤ 0 ∧ 0 ≤ 2 by omega)
      have e_39 := hw.a3 t
      exact hw4
    · have b_5_1 := misType_t (σ := _) (c := t) (by assumption)
      have hw4 : wfm (mfl σ 0 0) := wfm_f (k := 0) hw (show (0 : Int) ≤ 0 ∧ 0 ≤ 2 by omega)
      have e_39 := hw.a3 t
      have hw8 : wfm (mar (mfl σ 0 0) 3 t 0) := wfm_a (k := 3) hw4 (show (0 : Int) ≤ 0 ∧ 0 ≤ 24 by omega)
      have hw9 : wfm (mar (mar (mfl σ 0 0) 3 t 0) 8 t (-1)) := wfm_a (k := 8) hw8 (show (-1 : Int) ≤ (-1) ∧ (-1) ≤ 23 by omega)
      exact hw9
  · have hw2 : wfm (mfl σ 0 1) := wfm_f (k := 0) hw (show (0 : Int) ≤ 1 ∧ 1 ≤ 2 by omega)
    exact hw2
def c_mbeginComponent (σ : mS)  : mS := (mar (mfl (mar σ 20 (σ.1 19) (σ.1 21)) 19 ((σ.1 19) + 1)) 20 ((σ.1 19) + 1) (σ.1 21))
theorem t_mbeginComponent {l : Launch} {G : jG} {d : Nat} {σ : mS}  (hw : wfm σ) (hd : 0 ≤ d)  (hmc : σ.1 19 < 121) : CJ jMod mown l G (Yx mX7_beginComponent) d 0 0 0 [some (.ref 116)] [] σ (det none (c_mbeginComponent σ )) := by
  refine C_aload_n dX7_beginComponent_0 rfl ?_
  refine C_get (v := .ref 127) dX7_beginComponent_1 f_X7_45 (fun h hc => ⟨_, hc.1, rfl⟩) ?_
  refine C_aload_n dX7_beginComponent_4 rfl ?_
  refine C_get (v := vi (σ.1 19)) dX7_beginComponent_5 f_X7_157 (fun h hc => ⟨_, hc.1, rfl⟩) ?_
  have g_5 := hw.f19
  refine C_aload_n dX7_beginComponent_8 rfl ?_
  refine C_get (v := vi (σ.1 21)) dX7_beginComponent_9 f_X7_160 (fun h hc => ⟨_, hc.1, rfl⟩) ?_
  have g_9 := hw.f21
  refine C_iast (σ' := (mar σ 20 (σ.1 19) (σ.1 21))) dX7_beginComponent_12 (by omega) (by omega) mo20 (fun h hc => hc.st20 hw (by omega) (by omega)) ?_
  have hw1 : wfm (mar σ 20 (σ.1 19) (σ.1 21)) := wfm_a (k := 20) hw (show (0 : Int) ≤ (σ.1 21) ∧ (σ.1 21) ≤ 400 by omega)
  refine C_aload_n dX7_beginComponent_13 rfl ?_
  refine C_dup dX7_beginComponent_14 rfl ?_
  refine C_get (v := vi (σ.1 19)) dX7_beginComponent_15 f_X7_157 (fun h hc => ⟨_, hc.1, congrArg (fun z => some (vi z)) (show ((mar σ 20 (σ.1 19) (σ.1 21)).1 19) = (σ.1 19) by simp [mfl, mar, upF])⟩) ?_
  have g_15 := hw.f19
  refine C_iconst dX7_beginComponent_18 ?_
  refine C_iadd dX7_beginComponent_19 ?_
  refine C_put (σ' := (mfl (mar σ 20 (σ.1 19) (σ.1 21)) 19 ((σ.1 19) + 1))) dX7_beginComponent_20 f_X7_157 jfit_i mown_0 (fun h hc => hc.pf19) ?_
  have hw2 : wfm (mfl (mar σ 20 (σ.1 19) (σ.1 21)) 19 ((σ.1 19) + 1)) := wfm_f (k := 19) hw1 (show (0 : Int) ≤ ((σ.1 19) + 1) ∧ ((σ.1 19) + 1) ≤ 121 by omega)
  refine C_aload_n dX7_beginComponent_23 rfl ?_
  refine C_get (v := .ref 127) dX7_beginComponent_24 f_X7_45 (fun h hc => ⟨_, hc.1, rfl⟩) ?_
  refine C_aload_n dX7_beginComponent_27 rfl ?_
  refine C_get (v := vi ((σ.1 19) + 1)) dX7_beginComponent_28 f_X7_157 (fun h hc => ⟨_, hc.1, congrArg (fun z => some (vi z)) (show ((mfl (mar σ 20 (σ.1 19) (σ.1 21)) 19 ((σ.1 19) + 1)).1 19) = ((σ.1 19) + 1) by simp [mfl, mar, upF])⟩) ?_
  refine C_aload_n dX7_beginComponent_31 rfl ?_
  refine C_get (v := vi (σ.1 21)) dX7_beginComponent_32 f_X7_160 (fun h hc => ⟨_, hc.1, congrArg (fun z => some (vi z)) (show ((mfl (mar σ 20 (σ.1 19) (σ.1 21)) 19 ((σ.1 19) + 1)).1 21) = (σ.1 21) by simp [mfl, mar, upF])⟩) ?_
  have g_32 := hw.f21
  refine C_iast (σ' := (mar (mfl (mar σ 20 (σ.1 19) (σ.1 21)) 19 ((σ.1 19) + 1)) 20 ((σ.1 19) + 1) (σ.1 21))) dX7_beginComponent_35 (by omega) (by omega) mo20 (fun h hc => hc.st20 hw2 (by omega) (by omega)) ?_
  have hw3 : wfm (mar (mfl (mar σ 20 (σ.1 19) (σ.1 21)) 19 ((σ.1 19) + 1)) 20 ((σ.1 19) + 1) (σ.1 21)) := wfm_a (k := 20) hw2 (show (0 : Int) ≤ (σ.1 21) ∧ (σ.1 21) ≤ 400 by omega)
  refine C_vret dX7_beginComponent_36 rfl ⟨rfl, ?_⟩
  rw [c_mbeginComponent]
theorem w_mbeginComponent {σ : mS}  (hw : wfm σ)  (hmc : σ.1 19 < 121) : wfm (c_mbeginComponent σ ) := by
  unfold c_mbeginComponent
  have g_5 := hw.f19
  have g_9 := hw.f21
  have hw1 : wfm (mar σ 20 (σ.1 19) (σ.1 21)) := wfm_a (k := 20) hw (show (0 : Int) ≤ (σ.1 21) ∧ (σ.1 21) ≤ 400 by omega)
  have g_15 := hw.f19
  have hw2 : wfm (mfl (mar σ 20 (σ.1 19) (σ.1 21)) 19 ((σ.1 19) + 1)) := wfm_f (k := 19) hw1 (show (0 : Int) ≤ ((σ.1 19) + 1) ∧ ((σ.1 19) + 1) ≤ 121 by omega)
  have g_32 := hw.f21
  have hw3 : wfm (mar (mfl (mar σ 20 (σ.1 19) (σ.1 21)) 19 ((σ.1 19) + 1)) 20 ((σ.1 19) + 1) (σ.1 21)) := wfm_a (k := 20) hw2 (show (0 : Int) ≤ (σ.1 21) ∧ (σ.1 21) ≤ 400 by omega)
  exact hw3
def c_mgood1 (σ : mS) (i : Int) (c : Int) : Int := (if i = 5 then 1 else (if i = 7 then (if c = 32 then 1 else 0) else (if (c_mcanMark σ c) = true then 1 else (if i = 6 then (if c = 32 then 1 else 0) else 0))))
theorem t_mgood1 {l : Launch} {G : jG} {d bc bs : Nat} {P : jO → mS → Prop} {σ : mS} {i : Int} {c : Int} (hw : wfm σ) (hd : 2 ≤ d) (hi : 3 ≤ i ∧ i ≤ 8) (hc : 0 ≤ c ∧ c ≤ 126) (kk : CJ jMod mown l G (Yx mX7_marks) d bc bs 141 [some (.ref 116), some (vi i), some (vi c), none] [vi (c_mgood1 σ i c)] σ P) : CJ jMod mown l G (Yx mX7_marks) d bc bs 97 [some (.ref 116), some (vi i), some (vi c), none] [] σ P := by
  refine C_iload_n dX7_marks_97 rfl ?_
  refine C_iconst dX7_marks_98 ?_
  refine C_icmp_eq (tgt := 136) dX7_marks_99 (by decide) (by omega) (by omega) (fun c_99 => ?_) (fun c_99 => ?_)
  · refine C_iconst dX7_marks_136 ?_
    refine C_goto (tgt := 141) dX7_marks_137 (by decide) ?_
    rw [c_mgood1, if_pos (by omega)] at kk
    exact kk
  · refine C_iload_n dX7_marks_102 rfl ?_
    refine C_bipush dX7_marks_103 (by decide) ?_
    refine C_icmp_ne (tgt := 117) dX7_marks_105 (by decide) (by omega) (by omega) (fun c_105 => ?_) (fun c_105 => ?_)
    · refine C_iload_n dX7_marks_117 rfl ?_
      refine D_callS (As := [vi _]) (d' := 1) (t_mcanMark hw (Nat.le_refl _) (by omega)) dX7_marks_118 s_X7_154 rfl (Nat.le_of_ble_eq_true rfl) (by omega) (Nat.le_of_ble_eq_true rfl) ?_
      simp only [Option.toList, List.nil_append, List.cons_append]
      refine C_if_neZ (tgt := 136) dX7_marks_121 (by decide) (fun c_121 => ?_) (fun c_121 => ?_)
      · refine C_iconst dX7_marks_136 ?_
        refine C_goto (tgt := 141) dX7_marks_137 (by decide) ?_
        rw [c_mgood1, if_neg (by omega), if_neg (by omega), if_pos c_121] at kk
        exact kk
      · refine C_iload_n dX7_marks_124 rfl ?_
        refine C_bipush dX7_marks_125 (by decide) ?_
        refine C_icmp_ne (tgt := 140) dX7_marks_127 (by decide) (by omega) (by omega) (fun c_127 => ?_) (fun c_127 => ?_)
        · refine C_iconst dX7_marks_140 ?_
          rw [c_mgood1, if_neg (by omega), if_neg (by omega), if_neg (by rw [c_121]; decide), if_neg (by omega)] at kk
          exact kk
        · refine C_iload_n dX7_marks_130 rfl ?_
          refine C_bipush dX7_marks_131 (by decide) ?_
          refine C_icmp_ne (tgt := 140) dX7_marks_133 (by decide) (by omega) (by omega) (fun c_133 => ?_) (fun c_133 => ?_)
          · refine C_iconst dX7_marks_140 ?_
            rw [c_mgood1, if_neg (by omega), if_neg (by omega), if_neg (by rw [c_121]; decide), if_pos (by omega), if_neg (by omega)] at kk
            exact kk
          · refine C_iconst dX7_marks_136 ?_
            refine C_goto (tgt := 141) dX7_marks_137 (by decide) ?_
            rw [c_mgood1, if_neg (by omega), if_neg (by omega), if_neg (by rw [c_121]; decide), if_pos (by omega), if_pos (by omega)] at kk
            exact kk
    · refine C_iload_n dX7_marks_108 rfl ?_
      refine C_bipush dX7_marks_109 (by decide) ?_
      refine C_icmp_ne (tgt := 140) dX7_marks_111 (by decide) (by omega) (by omega) (fun c_111 => ?_) (fun c_111 => ?_)
      · refine C_iconst dX7_marks_140 ?_
        rw [c_mgood1, if_neg (by omega), if_pos (by omega), if_neg (by omega)] at kk
        exact kk
      · refine C_goto (tgt := 136) dX7_marks_114 (by decide) ?_
        refine C_iconst dX7_marks_136 ?_
        refine C_goto (tgt := 141) dX7_marks_137 (by decide) ?_
        rw [c_mgood1, if_neg (by omega), if_pos (by omega), if_pos (by omega)] at kk
        exact kk
theorem r_mgood1 {σ : mS} {i : Int} {c : Int} (hw : wfm σ) (hi : 3 ≤ i ∧ i ≤ 8) (hc : 0 ≤ c ∧ c ≤ 126) : 0 ≤ (c_mgood1 σ i c) ∧ (c_mgood1 σ i c) < 2 := by
  unfold c_mgood1
  split
  · omega
  · split
    · split
      · omega
      · omega
    · split
      · omega
      · split
        · split
          · omega
          · omega
        · omega
def c_mgood2 (σ : mS) (i : Int) (c : Int) (z : Int) : Int := (if z = 0 then 0 else (if i < 4 then (if i < 6 then (if i < 8 then 1 else (if c = (mat (σ.2 2) 6) then 0 else 1)) else (if i = 7 then (if i < 8 then 1 else (if c = (mat (σ.2 2) 6) then 0 else 1)) else (if c = (mat (σ.2 2) 4) then 0 else (if i < 8 then 1 else (if c = (mat (σ.2 2) 6) then 0 else 1))))) else (if i = 5 then (if i < 6 then (if i < 8 then 1 else (if c = (mat (σ.2 2) 6) then 0 else 1)) else (if i = 7 then (if i < 8 then 1 else (if c = (mat (σ.2 2) 6) then 0 else 1)) else (if c = (mat (σ.2 2) 4) then 0 else (if i < 8 then 1 else (if c = (mat (σ.2 2) 6) then 0 else 1))))) else (if i = 7 then (if i < 6 then (if i < 8 then 1 else (if c = (mat (σ.2 2) 6) then 0 else 1)) else (if i < 8 then 1 else (if c = (mat (σ.2 2) 6) then 0 else 1))) else (if c = (mat (σ.2 2) 3) then 0 else (if i < 6 then (if i < 8 then 1 else (if c = (mat (σ.2 2) 6) then 0 else 1)) else (if c = (mat (σ.2 2) 4) then 0 else (if i < 8 then 1 else (if c = (mat (σ.2 2) 6) then 0 else 1)))))))))
theorem t_mgood2 {l : Launch} {G : jG} {d bc bs : Nat} {P : jO → mS → Prop} {σ : mS} {i : Int} {c : Int} {z : Int} (hw : wfm σ) (hd : 2 ≤ d) (hi : 3 ≤ i ∧ i ≤ 8) (hc : 0 ≤ c ∧ c ≤ 126) (hz : 0 ≤ z ∧ z ≤ 1) (kk : CJ jMod mown l G (Yx mX7_marks) d bc bs 216 [some (.ref 116), some (vi i), some (vi c), some (vi z)] [vi (c_mgood2 σ i c z)] σ P) : CJ jMod mown l G (Yx mX7_marks) d bc bs 142 [some (.ref 116), some (vi i), some (vi c), some (vi z)] [] σ P := by
  refine C_iload_n dX7_marks_142 rfl ?_
  refine C_if_eq (tgt := 215) dX7_marks_143 (by decide) (by omega) (fun c_143 => ?_) (fun c_143 => ?_)
  · refine C_iconst dX7_marks_215 ?_
    rw [c_mgood2, if_pos (by omega)] at kk
    exact kk
  · refine C_iload_n dX7_marks_146 rfl ?_
    refine C_iconst dX7_marks_147 ?_
    refine C_icmp_lt (tgt := 172) dX7_marks_148 (by decide) (by omega) (by omega) (fun c_148 => ?_) (fun c_148 => ?_)
    · refine C_iload_n dX7_marks_172 rfl ?_
      refine C_bipush dX7_marks_173 (by decide) ?_
      refine C_icmp_lt (tgt := 194) dX7_marks_175 (by decide) (by omega) (by omega) (fun c_175 => ?_) (fun c_175 => ?_)
      · refine C_iload_n dX7_marks_194 rfl ?_
        refine C_bipush dX7_marks_195 (by decide) ?_
        refine C_icmp_lt (tgt := 211) dX7_marks_197 (by decide) (by omega) (by omega) (fun c_197 => ?_) (fun c_197 => ?_)
        · refine C_iconst dX7_marks_211 ?_
          refine C_goto (tgt := 216) dX7_marks_212 (by decide) ?_
          rw [c_mgood2, if_neg (by omega), if_pos (by omega), if_pos (by omega), if_pos (by omega)] at kk
          exact kk
        · refine C_iload_n dX7_marks_200 rfl ?_
          refine C_aload_n dX7_marks_201 rfl ?_
          refine C_get (v := .ref 117) dX7_marks_202 f_X7_7 (fun h hc => ⟨_, hc.1, rfl⟩) ?_
          refine C_bipush dX7_marks_205 (by decide) ?_
          refine C_iald (v := vi (mat (σ.2 2) 6)) dX7_marks_207 (by omega) (by omega) (fun h hc => hc.rd2 hw (by omega) (by omega)) ?_
          have e_207 := hw.a2 6
          refine C_icmp_eq (tgt := 215) dX7_marks_208 (by decide) (by omega) (by omega) (fun c_208 => ?_) (fun c_208 => ?_)
          · refine C_iconst dX7_marks_215 ?_
            rw [c_mgood2, if_neg (by omega), if_pos (by omega), if_pos (by omega), if_neg (by omega), if_pos (by omega)] at kk
            exact kk
          · refine C_iconst dX7_marks_211 ?_
            refine C_goto (tgt := 216) dX7_marks_212 (by decide) ?_
            rw [c_mgood2, if_neg (by omega), if_pos (by omega), if_pos (by omega), if_neg (by omega), if_neg (by omega)] at kk
            exact kk
      · refine C_iload_n dX7_marks_178 rfl ?_
        refine C_bipush dX7_marks_179 (by decide) ?_
        refine C_icmp_eq (tgt := 194) dX7_marks_181 (by decide) (by omega) (by omega) (fun c_181 => ?_) (fun c_181 => ?_)
        · refine C_iload_n dX7_marks_194 rfl ?_
          refine C_bipush dX7_marks_195 (by decide) ?_
          refine C_icmp_lt (tgt := 211) dX7_marks_197 (by decide) (by omega) (by omega) (fun c_197 => ?_) (fun c_197 => ?_)
          · refine C_iconst dX7_marks_211 ?_
            refine C_goto (tgt := 216) dX7_marks_212 (by decide) ?_
            rw [c_mgood2, if_neg (by omega), if_pos (by omega), if_neg (by omega), if_pos (by omega), if_pos (by omega)] at kk
            exact kk
          · refine C_iload_n dX7_marks_200 rfl ?_
            refine C_aload_n dX7_marks_201 rfl ?_
            refine C_get (v := .ref 117) dX7_marks_202 f_X7_7 (fun h hc => ⟨_, hc.1, rfl⟩) ?_
            refine C_bipush dX7_marks_205 (by decide) ?_
            refine C_iald (v := vi (mat (σ.2 2) 6)) dX7_marks_207 (by omega) (by omega) (fun h hc => hc.rd2 hw (by omega) (by omega)) ?_
            have e_207 := hw.a2 6
            refine C_icmp_eq (tgt := 215) dX7_marks_208 (by decide) (by omega) (by omega) (fun c_208 => ?_) (fun c_208 => ?_)
            · refine C_iconst dX7_marks_215 ?_
              rw [c_mgood2, if_neg (by omega), if_pos (by omega), if_neg (by omega), if_pos (by omega), if_neg (by omega), if_pos (by omega)] at kk
              exact kk
            · refine C_iconst dX7_marks_211 ?_
              refine C_goto (tgt := 216) dX7_marks_212 (by decide) ?_
              rw [c_mgood2, if_neg (by omega), if_pos (by omega), if_neg (by omega), if_pos (by omega), if_neg (by omega), if_neg (by omega)] at kk
              exact kk
        · refine C_iload_n dX7_marks_184 rfl ?_
          refine C_aload_n dX7_marks_185 rfl ?_
          refine C_get (v := .ref 117) dX7_marks_186 f_X7_7 (fun h hc => ⟨_, hc.1, rfl⟩) ?_
          refine C_iconst dX7_marks_189 ?_
          refine C_iald (v := vi (mat (σ.2 2) 4)) dX7_marks_190 (by omega) (by omega) (fun h hc => hc.rd2 hw (by omega) (by omega)) ?_
          have e_190 := hw.a2 4
          refine C_icmp_eq (tgt := 215) dX7_marks_191 (by decide) (by omega) (by omega) (fun c_191 => ?_) (fun c_191 => ?_)
          · refine C_iconst dX7_marks_215 ?_
            rw [c_mgood2, if_neg (by omega), if_pos (by omega), if_neg (by omega), if_neg (by omega), if_pos (by omega)] at kk
            exact kk
          · refine C_iload_n dX7_marks_194 rfl ?_
            refine C_bipush dX7_marks_195 (by decide) ?_
            refine C_icmp_lt (tgt := 211) dX7_marks_197 (by decide) (by omega) (by omega) (fun c_197 => ?_) (fun c_197 => ?_)
            · refine C_iconst dX7_marks_211 ?_
              refine C_goto (tgt := 216) dX7_marks_212 (by decide) ?_
              rw [c_mgood2, if_neg (by omega), if_pos (by omega), if_neg (by omega), if_neg (by omega), if_neg (by omega), if_pos (by omega)] at kk
              exact kk
            · refine C_iload_n dX7_marks_200 rfl ?_
              refine C_aload_n dX7_marks_201 rfl ?_
              refine C_get (v := .ref 117) dX7_marks_202 f_X7_7 (fun h hc => ⟨_, hc.1, rfl⟩) ?_
              refine C_bipush dX7_marks_205 (by decide) ?_
              refine C_iald (v := vi (mat (σ.2 2) 6)) dX7_marks_207 (by omega) (by omega) (fun h hc => hc.rd2 hw (by omega) (by omega)) ?_
              have e_207 := hw.a2 6
              refine C_icmp_eq (tgt := 215) dX7_marks_208 (by decide) (by omega) (by omega) (fun c_208 => ?_) (fun c_208 => ?_)
              · refine C_iconst dX7_marks_215 ?_
                rw [c_mgood2, if_neg (by omega), if_pos (by omega), if_neg (by omega), if_neg (by omega), if_neg (by omega), if_neg (by omega), if_pos (by omega)] at kk
                exact kk
              · refine C_iconst dX7_marks_211 ?_
                refine C_goto (tgt := 216) dX7_marks_212 (by decide) ?_
                rw [c_mgood2, if_neg (by omega), if_pos (by omega), if_neg (by omega), if_neg (by omega), if_neg (by omega), if_neg (by omega), if_neg (by omega)] at kk
                exact kk
    · refine C_iload_n dX7_marks_151 rfl ?_
      refine C_iconst dX7_marks_152 ?_
      refine C_icmp_eq (tgt := 172) dX7_marks_153 (by decide) (by omega) (by omega) (fun c_153 => ?_) (fun c_153 => ?_)
      · refine C_iload_n dX7_marks_172 rfl ?_
        refine C_bipush dX7_marks_173 (by decide) ?_
        refine C_icmp_lt (tgt := 194) dX7_marks_175 (by decide) (by omega) (by omega) (fun c_175 => ?_) (fun c_175 => ?_)
        · refine C_iload_n dX7_marks_194 rfl ?_
          refine C_bipush dX7_marks_195 (by decide) ?_
          refine C_icmp_lt (tgt := 211) dX7_marks_197 (by decide) (by omega) (by omega) (fun c_197 => ?_) (fun c_197 => ?_)
          · refine C_iconst dX7_marks_211 ?_
            refine C_goto (tgt := 216) dX7_marks_212 (by decide) ?_
            rw [c_mgood2, if_neg (by omega), if_neg (by omega), if_pos (by omega), if_pos (by omega), if_pos (by omega)] at kk
            exact kk
          · refine C_iload_n dX7_marks_200 rfl ?_
            refine C_aload_n dX7_marks_201 rfl ?_
            refine C_get (v := .ref 117) dX7_marks_202 f_X7_7 (fun h hc => ⟨_, hc.1, rfl⟩) ?_
            refine C_bipush dX7_marks_205 (by decide) ?_
            refine C_iald (v := vi (mat (σ.2 2) 6)) dX7_marks_207 (by omega) (by omega) (fun h hc => hc.rd2 hw (by omega) (by omega)) ?_
            have e_207 := hw.a2 6
            refine C_icmp_eq (tgt := 215) dX7_marks_208 (by decide) (by omega) (by omega) (fun c_208 => ?_) (fun c_208 => ?_)
            · refine C_iconst dX7_marks_215 ?_
              rw [c_mgood2, if_neg (by omega), if_neg (by omega), if_pos (by omega), if_pos (by omega), if_neg (by omega), if_pos (by omega)] at kk
              exact kk
            · refine C_iconst dX7_marks_211 ?_
              refine C_goto (tgt := 216) dX7_marks_212 (by decide) ?_
              rw [c_mgood2, if_neg (by omega), if_neg (by omega), if_pos (by omega), if_pos (by omega), if_neg (by omega), if_neg (by omega)] at kk
              exact kk
        · refine C_iload_n dX7_marks_178 rfl ?_
          refine C_bipush dX7_marks_179 (by decide) ?_
          refine C_icmp_eq (tgt := 194) dX7_marks_181 (by decide) (by omega) (by omega) (fun c_181 => ?_) (fun c_181 => ?_)
          · refine C_iload_n dX7_marks_194 rfl ?_
            refine C_bipush dX7_marks_195 (by decide) ?_
            refine C_icmp_lt (tgt := 211) dX7_marks_197 (by decide) (by omega) (by omega) (fun c_197 => ?_) (fun c_197 => ?_)
            · refine C_iconst dX7_marks_211 ?_
              refine C_goto (tgt := 216) dX7_marks_212 (by decide) ?_
              rw [c_mgood2, if_neg (by omega), if_neg (by omega), if_pos (by omega), if_neg (by omega), if_pos (by omega), if_pos (by omega)] at kk
              exact kk
            · refine C_iload_n dX7_marks_200 rfl ?_
              refine C_aload_n dX7_marks_201 rfl ?_
              refine C_get (v := .ref 117) dX7_marks_202 f_X7_7 (fun h hc => ⟨_, hc.1, rfl⟩) ?_
              refine C_bipush dX7_marks_205 (by decide) ?_
              refine C_iald (v := vi (mat (σ.2 2) 6)) dX7_marks_207 (by omega) (by omega) (fun h hc => hc.rd2 hw (by omega) (by omega)) ?_
              have e_207 := hw.a2 6
              refine C_icmp_eq (tgt := 215) dX7_marks_208 (by decide) (by omega) (by omega) (fun c_208 => ?_) (fun c_208 => ?_)
              · refine C_iconst dX7_marks_215 ?_
                rw [c_mgood2, if_neg (by omega), if_neg (by omega), if_pos (by omega), if_neg (by omega), if_pos (by omega), if_neg (by omega), if_pos (by omega)] at kk
                exact kk
              · refine C_iconst dX7_marks_211 ?_
                refine C_goto (tgt := 216) dX7_marks_212 (by decide) ?_
                rw [c_mgood2, if_neg (by omega), if_neg (by omega), if_pos (by omega), if_neg (by omega), if_pos (by omega), if_neg (by omega), if_neg (by omega)] at kk
                exact kk
          · refine C_iload_n dX7_marks_184 rfl ?_
            refine C_aload_n dX7_marks_185 rfl ?_
            refine C_get (v := .ref 117) dX7_marks_186 f_X7_7 (fun h hc => ⟨_, hc.1, rfl⟩) ?_
            refine C_iconst dX7_marks_189 ?_
            refine C_iald (v := vi (mat (σ.2 2) 4)) dX7_marks_190 (by omega) (by omega) (fun h hc => hc.rd2 hw (by omega) (by omega)) ?_
            have e_190 := hw.a2 4
            refine C_icmp_eq (tgt := 215) dX7_marks_191 (by decide) (by omega) (by omega) (fun c_191 => ?_) (fun c_191 => ?_)
            · refine C_iconst dX7_marks_215 ?_
              rw [c_mgood2, if_neg (by omega), if_neg (by omega), if_pos (by omega), if_neg (by omega), if_neg (by omega), if_pos (by omega)] at kk
              exact kk
            · refine C_iload_n dX7_marks_194 rfl ?_
              refine C_bipush dX7_marks_195 (by decide) ?_
              refine C_icmp_lt (tgt := 211) dX7_marks_197 (by decide) (by omega) (by omega) (fun c_197 => ?_) (fun c_197 => ?_)
              · refine C_iconst dX7_marks_211 ?_
                refine C_goto (tgt := 216) dX7_marks_212 (by decide) ?_
                rw [c_mgood2, if_neg (by omega), if_neg (by omega), if_pos (by omega), if_neg (by omega), if_neg (by omega), if_neg (by omega), if_pos (by omega)] at kk
                exact kk
              · refine C_iload_n dX7_marks_200 rfl ?_
                refine C_aload_n dX7_marks_201 rfl ?_
                refine C_get (v := .ref 117) dX7_marks_202 f_X7_7 (fun h hc => ⟨_, hc.1, rfl⟩) ?_
                refine C_bipush dX7_marks_205 (by decide) ?_
                refine C_iald (v := vi (mat (σ.2 2) 6)) dX7_marks_207 (by omega) (by omega) (fun h hc => hc.rd2 hw (by omega) (by omega)) ?_
                have e_207 := hw.a2 6
                refine C_icmp_eq (tgt := 215) dX7_marks_208 (by decide) (by omega) (by omega) (fun c_208 => ?_) (fun c_208 => ?_)
                · refine C_iconst dX7_marks_215 ?_
                  rw [c_mgood2, if_neg (by omega), if_neg (by omega), if_pos (by omega), if_neg (by omega), if_neg (by omega), if_neg (by omega), if_neg (by omega), if_pos (by omega)] at kk
                  exact kk
                · refine C_iconst dX7_marks_211 ?_
                  refine C_goto (tgt := 216) dX7_marks_212 (by decide) ?_
                  rw [c_mgood2, if_neg (by omega), if_neg (by omega), if_pos (by omega), if_neg (by omega), if_neg (by omega), if_neg (by omega), if_neg (by omega), if_neg (by omega)] at kk
                  exact kk
      · refine C_iload_n dX7_marks_156 rfl ?_
        refine C_bipush dX7_marks_157 (by decide) ?_
        refine C_icmp_eq (tgt := 172) dX7_marks_159 (by decide) (by omega) (by omega) (fun c_159 => ?_) (fun c_159 => ?_)
        · refine C_iload_n dX7_marks_172 rfl ?_
          refine C_bipush dX7_marks_173 (by decide) ?_
          refine C_icmp_lt (tgt := 194) dX7_marks_175 (by decide) (by omega) (by omega) (fun c_175 => ?_) (fun c_175 => ?_)
          · refine C_iload_n dX7_marks_194 rfl ?_
            refine C_bipush dX7_marks_195 (by decide) ?_
            refine C_icmp_lt (tgt := 211) dX7_marks_197 (by decide) (by omega) (by omega) (fun c_197 => ?_) (fun c_197 => ?_)
            · refine C_iconst dX7_marks_211 ?_
              refine C_goto (tgt := 216) dX7_marks_212 (by decide) ?_
              rw [c_mgood2, if_neg (by omega), if_neg (by omega), if_neg (by omega), if_pos (by omega), if_pos (by omega), if_pos (by omega)] at kk
              exact kk
            · refine C_iload_n dX7_marks_200 rfl ?_
              refine C_aload_n dX7_marks_201 rfl ?_
              refine C_get (v := .ref 117) dX7_marks_202 f_X7_7 (fun h hc => ⟨_, hc.1, rfl⟩) ?_
              refine C_bipush dX7_marks_205 (by decide) ?_
              refine C_iald (v := vi (mat (σ.2 2) 6)) dX7_marks_207 (by omega) (by omega) (fun h hc => hc.rd2 hw (by omega) (by omega)) ?_
              have e_207 := hw.a2 6
              refine C_icmp_eq (tgt := 215) dX7_marks_208 (by decide) (by omega) (by omega) (fun c_208 => ?_) (fun c_208 => ?_)
              · refine C_iconst dX7_marks_215 ?_
                rw [c_mgood2, if_neg (by omega), if_neg (by omega), if_neg (by omega), if_pos (by omega), if_pos (by omega), if_neg (by omega), if_pos (by omega)] at kk
                exact kk
              · refine C_iconst dX7_marks_211 ?_
                refine C_goto (tgt := 216) dX7_marks_212 (by decide) ?_
                rw [c_mgood2, if_neg (by omega), if_neg (by omega), if_neg (by omega), if_pos (by omega), if_pos (by omega), if_neg (by omega), if_neg (by omega)] at kk
                exact kk
          · refine C_iload_n dX7_marks_178 rfl ?_
            refine C_bipush dX7_marks_179 (by decide) ?_
            refine C_icmp_eq (tgt := 194) dX7_marks_181 (by decide) (by omega) (by omega) (fun c_181 => ?_) (fun c_181 => absurd c_181 (by omega))
            refine C_iload_n dX7_marks_194 rfl ?_
            refine C_bipush dX7_marks_195 (by decide) ?_
            refine C_icmp_lt (tgt := 211) dX7_marks_197 (by decide) (by omega) (by omega) (fun c_197 => ?_) (fun c_197 => ?_)
            · refine C_iconst dX7_marks_211 ?_
              refine C_goto (tgt := 216) dX7_marks_212 (by decide) ?_
              rw [c_mgood2, if_neg (by omega), if_neg (by omega), if_neg (by omega), if_pos (by omega), if_neg (by omega), if_pos (by omega)] at kk
              exact kk
            · refine C_iload_n dX7_marks_200 rfl ?_
              refine C_aload_n dX7_marks_201 rfl ?_
              refine C_get (v := .ref 117) dX7_marks_202 f_X7_7 (fun h hc => ⟨_, hc.1, rfl⟩) ?_
              refine C_bipush dX7_marks_205 (by decide) ?_
              refine C_iald (v := vi (mat (σ.2 2) 6)) dX7_marks_207 (by omega) (by omega) (fun h hc => hc.rd2 hw (by omega) (by omega)) ?_
              have e_207 := hw.a2 6
              refine C_icmp_eq (tgt := 215) dX7_marks_208 (by decide) (by omega) (by omega) (fun c_208 => ?_) (fun c_208 => ?_)
              · refine C_iconst dX7_marks_215 ?_
                rw [c_mgood2, if_neg (by omega), if_neg (by omega), if_neg (by omega), if_pos (by omega), if_neg (by omega), if_neg (by omega), if_pos (by omega)] at kk
                exact kk
              · refine C_iconst dX7_marks_211 ?_
                refine C_goto (tgt := 216) dX7_marks_212 (by decide) ?_
                rw [c_mgood2, if_neg (by omega), if_neg (by omega), if_neg (by omega), if_pos (by omega), if_neg (by omega), if_neg (by omega), if_neg (by omega)] at kk
                exact kk
        · refine C_iload_n dX7_marks_162 rfl ?_
          refine C_aload_n dX7_marks_163 rfl ?_
          refine C_get (v := .ref 117) dX7_marks_164 f_X7_7 (fun h hc => ⟨_, hc.1, rfl⟩) ?_
          refine C_iconst dX7_marks_167 ?_
          refine C_iald (v := vi (mat (σ.2 2) 3)) dX7_marks_168 (by omega) (by omega) (fun h hc => hc.rd2 hw (by omega) (by omega)) ?_
          have e_168 := hw.a2 3
          refine C_icmp_eq (tgt := 215) dX7_marks_169 (by decide) (by omega) (by omega) (fun c_169 => ?_) (fun c_169 => ?_)
          · refine C_iconst dX7_marks_215 ?_
            rw [c_mgood2, if_neg (by omega), if_neg (by omega), if_neg (by omega), if_neg (by omega), if_pos (by omega)] at kk
            exact kk
          · refine C_iload_n dX7_marks_172 rfl ?_
            refine C_bipush dX7_marks_173 (by decide) ?_
            refine C_icmp_lt (tgt := 194) dX7_marks_175 (by decide) (by omega) (by omega) (fun c_175 => ?_) (fun c_175 => ?_)
            · refine C_iload_n dX7_marks_194 rfl ?_
              refine C_bipush dX7_marks_195 (by decide) ?_
              refine C_icmp_lt (tgt := 211) dX7_marks_197 (by decide) (by omega) (by omega) (fun c_197 => ?_) (fun c_197 => ?_)
              · refine C_iconst dX7_marks_211 ?_
                refine C_goto (tgt := 216) dX7_marks_212 (by decide) ?_
                rw [c_mgood2, if_neg (by omega), if_neg (by omega), if_neg (by omega), if_neg (by omega), if_neg (by omega), if_pos (by omega), if_pos (by omega)] at kk
                exact kk
              · refine C_iload_n dX7_marks_200 rfl ?_
                refine C_aload_n dX7_marks_201 rfl ?_
                refine C_get (v := .ref 117) dX7_marks_202 f_X7_7 (fun h hc => ⟨_, hc.1, rfl⟩) ?_
                refine C_bipush dX7_marks_205 (by decide) ?_
                refine C_iald (v := vi (mat (σ.2 2) 6)) dX7_marks_207 (by omega) (by omega) (fun h hc => hc.rd2 hw (by omega) (by omega)) ?_
                have e_207 := hw.a2 6
                refine C_icmp_eq (tgt := 215) dX7_marks_208 (by decide) (by omega) (by omega) (fun c_208 => ?_) (fun c_208 => ?_)
                · refine C_iconst dX7_marks_215 ?_
                  rw [c_mgood2, if_neg (by omega), if_neg (by omega), if_neg (by omega), if_neg (by omega), if_neg (by omega), if_pos (by omega), if_neg (by omega), if_pos (by omega)] at kk
                  exact kk
                · refine C_iconst dX7_marks_211 ?_
                  refine C_goto (tgt := 216) dX7_marks_212 (by decide) ?_
                  rw [c_mgood2, if_neg (by omega), if_neg (by omega), if_neg (by omega), if_neg (by omega), if_neg (by omega), if_pos (by omega), if_neg (by omega), if_neg (by omega)] at kk
                  exact kk
            · refine C_iload_n dX7_marks_178 rfl ?_
              refine C_bipush dX7_marks_179 (by decide) ?_
              refine C_icmp_eq (tgt := 194) dX7_marks_181 (by decide) (by omega) (by omega) (fun c_181 => absurd c_181 (by omega)) (fun c_181 => ?_)
              refine C_iload_n dX7_marks_184 rfl ?_
              refine C_aload_n dX7_marks_185 rfl ?_
              refine C_get (v := .ref 117) dX7_marks_186 f_X7_7 (fun h hc => ⟨_, hc.1, rfl⟩) ?_
              refine C_iconst dX7_marks_189 ?_
              refine C_iald (v := vi (mat (σ.2 2) 4)) dX7_marks_190 (by omega) (by omega) (fun h hc => hc.rd2 hw (by omega) (by omega)) ?_
              have e_190 := hw.a2 4
              refine C_icmp_eq (tgt := 215) dX7_marks_191 (by decide) (by omega) (by omega) (fun c_191 => ?_) (fun c_191 => ?_)
              · refine C_iconst dX7_marks_215 ?_
                rw [c_mgood2, if_neg (by omega), if_neg (by omega), if_neg (by omega), if_neg (by omega), if_neg (by omega), if_neg (by omega), if_pos (by omega)] at kk
                exact kk
              · refine C_iload_n dX7_marks_194 rfl ?_
                refine C_bipush dX7_marks_195 (by decide) ?_
                refine C_icmp_lt (tgt := 211) dX7_marks_197 (by decide) (by omega) (by omega) (fun c_197 => ?_) (fun c_197 => ?_)
                · refine C_iconst dX7_marks_211 ?_
                  refine C_goto (tgt := 216) dX7_marks_212 (by decide) ?_
                  rw [c_mgood2, if_neg (by omega), if_neg (by omega), if_neg (by omega), if_neg (by omega), if_neg (by omega), if_neg (by omega), if_neg (by omega), if_pos (by omega)] at kk
                  exact kk
                · refine C_iload_n dX7_marks_200 rfl ?_
                  refine C_aload_n dX7_marks_201 rfl ?_
                  refine C_get (v := .ref 117) dX7_marks_202 f_X7_7 (fun h hc => ⟨_, hc.1, rfl⟩) ?_
                  refine C_bipush dX7_marks_205 (by decide) ?_
                  refine C_iald (v := vi (mat (σ.2 2) 6)) dX7_marks_207 (by omega) (by omega) (fun h hc => hc.rd2 hw (by omega) (by omega)) ?_
                  have e_207 := hw.a2 6
                  refine C_icmp_eq (tgt := 215) dX7_marks_208 (by decide) (by omega) (by omega) (fun c_208 => ?_) (fun c_208 => ?_)
                  · refine C_iconst dX7_marks_215 ?_
                    rw [c_mgood2, if_neg (by omega), if_neg (by omega), if_neg (by omega), if_neg (by omega), if_neg (by omega), if_neg (by omega), if_neg (by omega), if_neg (by omega), if_pos (by omega)] at kk
                    exact kk
                  · refine C_iconst dX7_marks_211 ?_
                    refine C_goto (tgt := 216) dX7_marks_212 (by decide) ?_
                    rw [c_mgood2, if_neg (by omega), if_neg (by omega), if_neg (by omega), if_neg (by omega), if_neg (by omega), if_neg (by omega), if_neg (by omega), if_neg (by omega), if_neg (by omega)] at kk
                    exact kk
theorem r_mgood2 {σ : mS} {i : Int} {c : Int} {z : Int} (hw : wfm σ) (hi : 3 ≤ i ∧ i ≤ 8) (hc : 0 ≤ c ∧ c ≤ 126) (hz : 0 ≤ z ∧ z ≤ 1) : 0 ≤ (c_mgood2 σ i c z) ∧ (c_mgood2 σ i c z) < 2 := by
  unfold c_mgood2
  split
  · omega
  · split
    · split
      · split
        · omega
        · split
          · have e_207 := hw.a2 6
            omega
          · have e_207 := hw.a2 6
            omega
      · split
        · split
          · omega
          · split
            · have e_207 := hw.a2 6
              omega
            · have e_207 := hw.a2 6
              omega
        · split
          · have e_190 := hw.a2 4
            omega
          · split
            · have e_190 := hw.a2 4
              omega
            · split
              · have e_190 := hw.a2 4
                have e_207 := hw.a2 6
                omega
              · have e_190 := hw.a2 4
                have e_207 := hw.a2 6
                omega
    · split
      · split
        · split
          · omega
          · split
            · have e_207 := hw.a2 6
              omega
            · have e_207 := hw.a2 6
              omega
        · split
          · split
            · omega
            · split
              · have e_207 := hw.a2 6
                omega
              · have e_207 := hw.a2 6
                omega
          · split
            · have e_190 := hw.a2 4
              omega
            · split
              · have e_190 := hw.a2 4
                omega
              · split
                · have e_190 := hw.a2 4
                  have e_207 := hw.a2 6
                  omega
                · have e_190 := hw.a2 4
                  have e_207 := hw.a2 6
                  omega
      · split
        · split
          · split
            · omega
            · split
              · have e_207 := hw.a2 6
                omega
              · have e_207 := hw.a2 6
                omega
          · split
            · omega
            · split
              · have e_207 := hw.a2 6
                omega
              · have e_207 := hw.a2 6
                omega
        · split
          · have e_168 := hw.a2 3
            omega
          · split
            · split
              · have e_168 := hw.a2 3
                omega
              · split
                · have e_168 := hw.a2 3
                  have e_207 := hw.a2 6
                  omega
                · have e_168 := hw.a2 3
                  have e_207 := hw.a2 6
                  omega
            · split
              · have e_168 := hw.a2 3
                have e_190 := hw.a2 4
                omega
              · split
                · have e_168 := hw.a2 3
                  have e_190 := hw.a2 4
                  omega
                · split
                  · have e_168 := hw.a2 3
                    have e_190 := hw.a2 4
                    have e_207 := hw.a2 6
                    omega
                  · have e_168 := hw.a2 3
                    have e_190 := hw.a2 4
                    have e_207 := hw.a2 6
                    omega
def c_mmarksL  : Nat → Int → mS → Int × mS
  | 0, _, σ => (0, σ)
  | fu + 1, i, σ => (if 9 ≤ i then (if (mat (σ.2 2) 6) = 32 then (9, (mfl (mfl (mfl (mfl σ 9 (mat (σ.2 2) 3)) 10 (mat (σ.2 2) 4)) 11 0) 12 (mat (σ.2 2) 8))) else (9, (mfl (mfl (mfl (mfl σ 9 (mat (σ.2 2) 3)) 10 (mat (σ.2 2) 4)) 11 (mat (σ.2 2) 6)) 12 (mat (σ.2 2) 8)))) else (if i = (σ.1 1) then ((-1), (mfl σ 13 i)) else (if (c_mgood2 (mfl σ 13 i) i (mat (σ.2 2) i) (c_mgood1 (mfl σ 13 i) i (mat (σ.2 2) i))) = 0 then ((-1), (mfl σ 13 i)) else (c_mmarksL  fu (i + 1) (mfl σ 13 i)))))
def c_mmarks (σ : mS)  : Int × mS := (if (σ.1 1) < 3 then (0, (mfl (mfl (mfl (mfl σ 9 58) 10 43) 11 63) 12 39)) else (if (mat (σ.2 2) 0) = 85 then (if (mat (σ.2 2) 1) = 78 then (if (mat (σ.2 2) 2) = 65 then (c_mmarksL  (7) 3 (mfl (mfl (mfl (mfl σ 9 58) 10 43) 11 63) 12 39)) else (0, (mfl (mfl (mfl (mfl σ 9 58) 10 43) 11 63) 12 39))) else (0, (mfl (mfl (mfl (mfl σ 9 58) 10 43) 11 63) 12 39))) else (0, (mfl (mfl (mfl (mfl σ 9 58) 10 43) 11 63) 12 39))))
theorem t_mmarksL {l : Launch} {G : jG} {d : Nat} {σ : mS}  {i : Int} (hw : wfm σ) (hd : 2 ≤ d)  (fu : Nat) (hi : 3 ≤ i ∧ i ≤ 9) (hm : 9 - i < (fu : Int)) : CJ jMod mown l G (Yx mX7_marks) d 0 0 69 [some (.ref 116), some (vi i), none, none] [] σ (det (some (vi (c_mmarksL  fu i σ).1)) (c_mmarksL  fu i σ).2) := by
  induction fu generalizing σ i with
  | zero => exact absurd hm (by omega)
  | succ fu ih =>
    refine C_iload_n dX7_marks_69 rfl ?_
    refine C_bipush dX7_marks_70 (by decide) ?_
    refine C_icmp_ge (tgt := 229) dX7_marks_72 (by decide) (by omega) (by omega) (fun c_72 => ?_) (fun c_72 => ?_)
    · refine C_aload_n dX7_marks_229 rfl ?_
      refine C_aload_n dX7_marks_230 rfl ?_
      refine C_get (v := .ref 117) dX7_marks_231 f_X7_7 (fun h hc => ⟨_, hc.1, rfl⟩) ?_
      refine C_iconst dX7_marks_234 ?_
      refine C_iald (v := vi (mat (σ.2 2) 3)) dX7_marks_235 (by omega) (by omega) (fun h hc => hc.rd2 hw (by omega) (by omega)) ?_
      have e_235 := hw.a2 3
      refine C_put (σ' := (mfl σ 9 (mat (σ.2 2) 3))) dX7_marks_236 f_X7_142 jfit_i mown_0 (fun h hc => hc.pf9) ?_
      have hw2 : wfm (mfl σ 9 (mat (σ.2 2) 3)) := wfm_f (k := 9) hw (show (0 : Int) ≤ (mat (σ.2 2) 3) ∧ (mat (σ.2 2) 3) ≤ 126 by omega)
      refine C_aload_n dX7_marks_239 rfl ?_
      refine C_aload_n dX7_marks_240 rfl ?_
      refine C_get (v := .ref 117) dX7_marks_241 f_X7_7 (fun h hc => ⟨_, hc.1, rfl⟩) ?_
      refine C_iconst dX7_marks_244 ?_
      refine C_iald (v := vi (mat (σ.2 2) 4)) dX7_marks_245 (by omega) (by omega) (fun h hc => (hc.rd2 hw2 (by omega) (by omega)).imp (fun vs q => ⟨q.1, q.2.trans (congrArg (fun z => some (vi (mat z 4))) (show (mfl σ 9 (mat (σ.2 2) 3)).2 2 = σ.2 2 by simp [mfl, mar, upF]))⟩)) ?_
      have e_245 := hw.a2 4
      refine C_put (σ' := (mfl (mfl σ 9 (mat (σ.2 2) 3)) 10 (mat (σ.2 2) 4))) dX7_marks_246 f_X7_145 jfit_i mown_0 (fun h hc => hc.pf10) ?_
      have hw3 : wfm (mfl (mfl σ 9 (mat (σ.2 2) 3)) 10 (mat (σ.2 2) 4)) := wfm_f (k := 10) hw2 (show (0 : Int) ≤ (mat (σ.2 2) 4) ∧ (mat (σ.2 2) 4) ≤ 126 by omega)
      refine C_aload_n dX7_marks_249 rfl ?_
      refine C_aload_n dX7_marks_250 rfl ?_
      refine C_get (v := .ref 117) dX7_marks_251 f_X7_7 (fun h hc => ⟨_, hc.1, rfl⟩) ?_
      refine C_bipush dX7_marks_254 (by decide) ?_
      refine C_iald (v := vi (mat (σ.2 2) 6)) dX7_marks_256 (by omega) (by omega) (fun h hc => (hc.rd2 hw3 (by omega) (by omega)).imp (fun vs q => ⟨q.1, q.2.trans (congrArg (fun z => some (vi (mat z 6))) (show (mfl (mfl σ 9 (mat (σ.2 2) 3)) 10 (mat (σ.2 2) 4)).2 2 = σ.2 2 by simp [mfl, mar, upF]))⟩)) ?_
      have e_256 := hw.a2 6
      refine C_bipush dX7_marks_257 (by decide) ?_
      refine C_icmp_ne (tgt := 266) dX7_marks_259 (by decide) (by omega) (by omega) (fun c_259 => ?_) (fun c_259 => ?_)
      · refine C_aload_n dX7_marks_266 rfl ?_
        refine C_get (v := .ref 117) dX7_marks_267 f_X7_7 (fun h hc => ⟨_, hc.1, rfl⟩) ?_
        refine C_bipush dX7_marks_270 (by decide) ?_
        refine C_iald (v := vi (mat (σ.2 2) 6)) dX7_marks_272 (by omega) (by omega) (fun h hc => (hc.rd2 hw3 (by omega) (by omega)).imp (fun vs q => ⟨q.1, q.2.trans (congrArg (fun z => some (vi (mat z 6))) (show (mfl (mfl σ 9 (mat (σ.2 2) 3)) 10 (mat (σ.2 2) 4)).2 2 = σ.2 2 by simp [mfl, mar, upF]))⟩)) ?_
        have e_272 := hw.a2 6
        refine C_put (σ' := (mfl (mfl (mfl σ 9 (mat (σ.2 2) 3)) 10 (mat (σ.2 2) 4)) 11 (mat (σ.2 2) 6))) dX7_marks_273 f_X7_148 jfit_i mown_0 (fun h hc => hc.pf11) ?_
        have hw5 : wfm (mfl (mfl (mfl σ 9 (mat (σ.2 2) 3)) 10 (mat (σ.2 2) 4)) 11 (mat (σ.2 2) 6)) := wfm_f (k := 11) hw3 (show (0 : Int) ≤ (mat (σ.2 2) 6) ∧ (mat (σ.2 2) 6) ≤ 126 by omega)
        refine C_aload_n dX7_marks_276 rfl ?_
        refine C_aload_n dX7_marks_277 rfl ?_
        refine C_get (v := .ref 117) dX7_marks_278 f_X7_7 (fun h hc => ⟨_, hc.1, rfl⟩) ?_
        refine C_bipush dX7_marks_281 (by decide) ?_
        refine C_iald (v := vi (mat (σ.2 2) 8)) dX7_marks_283 (by omega) (by omega) (fun h hc => (hc.rd2 hw5 (by omega) (by omega)).imp (fun vs q => ⟨q.1, q.2.trans (congrArg (fun z => some (vi (mat z 8))) (show (mfl (mfl (mfl σ 9 (mat (σ.2 2) 3)) 10 (mat (σ.2 2) 4)) 11 (mat (σ.2 2) 6)).2 2 = σ.2 2 by simp [mfl, mar, upF]))⟩)) ?_
        have e_283 := hw.a2 8
        refine C_put (σ' := (mfl (mfl (mfl (mfl σ 9 (mat (σ.2 2) 3)) 10 (mat (σ.2 2) 4)) 11 (mat (σ.2 2) 6)) 12 (mat (σ.2 2) 8))) dX7_marks_284 f_X7_151 jfit_i mown_0 (fun h hc => hc.pf12) ?_
        have hw6 : wfm (mfl (mfl (mfl (mfl σ 9 (mat (σ.2 2) 3)) 10 (mat (σ.2 2) 4)) 11 (mat (σ.2 2) 6)) 12 (mat (σ.2 2) 8)) := wfm_f (k := 12) hw5 (show (0 : Int) ≤ (mat (σ.2 2) 8) ∧ (mat (σ.2 2) 8) ≤ 126 by omega)
        refine C_bipush dX7_marks_287 (by decide) ?_
        refine C_iret dX7_marks_289 rfl ?_
        unfold det; rw [c_mmarksL, if_pos (by omega), if_neg (by omega)]; exact ⟨rfl, rfl⟩
      · refine C_iconst dX7_marks_262 ?_
        refine C_goto (tgt := 273) dX7_marks_263 (by decide) ?_
        refine C_put (σ' := (mfl (mfl (mfl σ 9 (mat (σ.2 2) 3)) 10 (mat (σ.2 2) 4)) 11 0)) dX7_marks_273 f_X7_148 jfit_i mown_0 (fun h hc => hc.pf11) ?_
        have hw7 : wfm (mfl (mfl (mfl σ 9 (mat (σ.2 2) 3)) 10 (mat (σ.2 2) 4)) 11 0) := wfm_f (k := 11) hw3 (show (0 : Int) ≤ 0 ∧ 0 ≤ 126 by omega)
        refine C_aload_n dX7_marks_276 rfl ?_
        refine C_aload_n dX7_marks_277 rfl ?_
        refine C_get (v := .ref 117) dX7_marks_278 f_X7_7 (fun h hc => ⟨_, hc.1, rfl⟩) ?_
        refine C_bipush dX7_marks_281 (by decide) ?_
        refine C_iald (v := vi (mat (σ.2 2) 8)) dX7_marks_283 (by omega) (by omega) (fun h hc => (hc.rd2 hw7 (by omega) (by omega)).imp (fun vs q => ⟨q.1, q.2.trans (congrArg (fun z => some (vi (mat z 8))) (show (mfl (mfl (mfl σ 9 (mat (σ.2 2) 3)) 10 (mat (σ.2 2) 4)) 11 0).2 2 = σ.2 2 by simp [mfl, mar, upF]))⟩)) ?_
        have e_283 := hw.a2 8
        refine C_put (σ' := (mfl (mfl (mfl (mfl σ 9 (mat (σ.2 2) 3)) 10 (mat (σ.2 2) 4)) 11 0) 12 (mat (σ.2 2) 8))) dX7_marks_284 f_X7_151 jfit_i mown_0 (fun h hc => hc.pf12) ?_
        have hw8 : wfm (mfl (mfl (mfl (mfl σ 9 (mat (σ.2 2) 3)) 10 (mat (σ.2 2) 4)) 11 0) 12 (mat (σ.2 2) 8)) := wfm_f (k := 12) hw7 (show (0 : Int) ≤ (mat (σ.2 2) 8) ∧ (mat (σ.2 2) 8) ≤ 126 by omega)
        refine C_bipush dX7_marks_287 (by decide) ?_
        refine C_iret dX7_marks_289 rfl ?_
        unfold det; rw [c_mmarksL, if_pos (by omega), if_pos (by omega)]; exact ⟨rfl, rfl⟩
    · refine C_aload_n dX7_marks_75 rfl ?_
      refine C_iload_n dX7_marks_76 rfl ?_
      refine C_put (σ' := (mfl σ 13 i)) dX7_marks_77 f_X7_32 jfit_i mown_0 (fun h hc => hc.pf13) ?_
      have hw9 : wfm (mfl σ 13 i) := wfm_f (k := 13) hw (show (-1 : Int) ≤ i ∧ i ≤ 400 by omega)
      refine C_iload_n dX7_marks_80 rfl ?_
      refine C_aload_n dX7_marks_81 rfl ?_
      refine C_get (v := vi (σ.1 1)) dX7_marks_82 f_X7_105 (fun h hc => ⟨_, hc.1, congrArg (fun z => some (vi z)) (show ((mfl σ 13 i).1 1) = (σ.1 1) by simp [mfl, mar, upF])⟩) ?_
      have g_82 := hw.f1
      refine C_icmp_ne (tgt := 90) dX7_marks_85 (by decide) (by omega) (by omega) (fun c_85 => ?_) (fun c_85 => ?_)
      · refine C_aload_n dX7_marks_90 rfl ?_
        refine C_get (v := .ref 117) dX7_marks_91 f_X7_7 (fun h hc => ⟨_, hc.1, rfl⟩) ?_
        refine C_iload_n dX7_marks_94 rfl ?_
        refine C_iald (v := vi (mat (σ.2 2) i)) dX7_marks_95 (by omega) (by omega) (fun h hc => (hc.rd2 hw9 (by omega) (by omega)).imp (fun vs q => ⟨q.1, q.2.trans (congrArg (fun z => some (vi (mat z i))) (show (mfl σ 13 i).2 2 = σ.2 2 by simp [mfl, mar, upF]))⟩)) ?_
        have e_95 := hw.a2 i
        refine C_istore_n dX7_marks_96 (by decide) rfl ?_
        simp only [List.set_cons_zero, List.set_cons_succ, jfin0, jfin1, jfin2, jfin3]
        refine CJ.mono (ls' := [some (.ref 116), some (vi i), some (vi (mat (σ.2 2) i)), none]) (lsub_ok (by repeat (first | exact trivial | refine ⟨rfl, ?_⟩))) (fun _ _ q => q) ?_
        refine t_mgood1 hw9 hd (by omega) (by omega) ?_
        have r_97 := r_mgood1 (i := i) (c := (mat (σ.2 2) i)) hw9 (by omega) (by omega)
        refine C_istore_n dX7_marks_141 (by decide) rfl ?_
        simp only [List.set_cons_zero, List.set_cons_succ, jfin0, jfin1, jfin2, jfin3]
        refine CJ.mono (ls' := [some (.ref 116), some (vi i), some (vi (mat (σ.2 2) i)), some (vi (c_mgood1 (mfl σ 13 i) i (mat (σ.2 2) i)))]) (lsub_ok (by repeat (first | exact trivial | refine ⟨rfl, ?_⟩))) (fun _ _ q => q) ?_
        refine t_mgood2 hw9 hd (by omega) (by omega) (by omega) ?_
        have r_142 := r_mgood2 (i := i) (c := (mat (σ.2 2) i)) (z := (c_mgood1 (mfl σ 13 i) i (mat (σ.2 2) i))) hw9 (by omega) (by omega) (by omega)
        refine C_istore_n dX7_marks_216 (by decide) rfl ?_
        simp only [List.set_cons_zero, List.set_cons_succ, jfin0, jfin1, jfin2, jfin3]
        refine C_iload_n dX7_marks_217 rfl ?_
        refine C_if_ne (tgt := 223) dX7_marks_218 (by decide) (by omega) (fun c_218 => ?_) (fun c_218 => ?_)
        · refine C_iinc dX7_marks_223 rfl (by decide) rfl ?_
          simp only [List.set_cons_zero, List.set_cons_succ]
          refine C_goto (tgt := 69) dX7_marks_226 (by decide) ?_
          rw [c_mmarksL, if_neg (by omega), if_neg (by omega), if_neg (by omega)]
          refine CJ.mono (ls' := [some (.ref 116), some (vi (i + 1)), none, none]) (lsub_ok (by repeat (first | exact trivial | refine ⟨rfl, ?_⟩))) (fun _ _ q => q) ?_
          exact ih hw9 (by omega) (by omega)
        · refine C_iconst dX7_marks_221 ?_
          refine C_iret dX7_marks_222 rfl ?_
          unfold det; rw [c_mmarksL, if_neg (by omega), if_neg (by omega), if_pos (by omega)]; exact ⟨rfl, rfl⟩
      · refine C_iconst dX7_marks_88 ?_
        refine C_iret dX7_marks_89 rfl ?_
        unfold det; rw [c_mmarksL, if_neg (by omega), if_pos (by omega)]; exact ⟨rfl, rfl⟩
theorem t_mmarks {l : Launch} {G : jG} {d : Nat} {σ : mS}  (hw : wfm σ) (hd : 2 ≤ d)  : CJ jMod mown l G (Yx mX7_marks) d 0 0 0 [some (.ref 116), none, none, none] [] σ (det (some (vi (c_mmarks σ ).1)) (c_mmarks σ ).2) := by
  refine C_aload_n dX7_marks_0 rfl ?_
  refine C_bipush dX7_marks_1 (by decide) ?_
  refine C_put (σ' := (mfl σ 9 58)) dX7_marks_3 f_X7_142 jfit_i mown_0 (fun h hc => hc.pf9) ?_
  have hw1 : wfm (mfl σ 9 58) := wfm_f (k := 9) hw (show (0 : Int) ≤ 58 ∧ 58 ≤ 126 by omega)
  refine C_aload_n dX7_marks_6 rfl ?_
  refine C_bipush dX7_marks_7 (by decide) ?_
  refine C_put (σ' := (mfl (mfl σ 9 58) 10 43)) dX7_marks_9 f_X7_145 jfit_i mown_0 (fun h hc => hc.pf10) ?_
  have hw2 : wfm (mfl (mfl σ 9 58) 10 43) := wfm_f (k := 10) hw1 (show (0 : Int) ≤ 43 ∧ 43 ≤ 126 by omega)
  refine C_aload_n dX7_marks_12 rfl ?_
  refine C_bipush dX7_marks_13 (by decide) ?_
  refine C_put (σ' := (mfl (mfl (mfl σ 9 58) 10 43) 11 63)) dX7_marks_15 f_X7_148 jfit_i mown_0 (fun h hc => hc.pf11) ?_
  have hw3 : wfm (mfl (mfl (mfl σ 9 58) 10 43) 11 63) := wfm_f (k := 11) hw2 (show (0 : Int) ≤ 63 ∧ 63 ≤ 126 by omega)
  refine C_aload_n dX7_marks_18 rfl ?_
  refine C_bipush dX7_marks_19 (by decide) ?_
  refine C_put (σ' := (mfl (mfl (mfl (mfl σ 9 58) 10 43) 11 63) 12 39)) dX7_marks_21 f_X7_151 jfit_i mown_0 (fun h hc => hc.pf12) ?_
  have hw4 : wfm (mfl (mfl (mfl (mfl σ 9 58) 10 43) 11 63) 12 39) := wfm_f (k := 12) hw3 (show (0 : Int) ≤ 39 ∧ 39 ≤ 126 by omega)
  refine C_aload_n dX7_marks_24 rfl ?_
  refine C_get (v := vi (σ.1 1)) dX7_marks_25 f_X7_105 (fun h hc => ⟨_, hc.1, congrArg (fun z => some (vi z)) (show ((mfl (mfl (mfl (mfl σ 9 58) 10 43) 11 63) 12 39).1 1) = (σ.1 1) by simp [mfl, mar, upF])⟩) ?_
  have g_25 := hw.f1
  refine C_iconst dX7_marks_28 ?_
  refine C_icmp_lt (tgt := 65) dX7_marks_29 (by decide) (by omega) (by omega) (fun c_29 => ?_) (fun c_29 => ?_)
  · refine C_iconst dX7_marks_65 ?_
    refine C_iret dX7_marks_66 rfl ?_
    unfold det; rw [c_mmarks, if_pos (by omega)]; exact ⟨rfl, rfl⟩
  · refine C_aload_n dX7_marks_32 rfl ?_
    refine C_get (v := .ref 117) dX7_marks_33 f_X7_7 (fun h hc => ⟨_, hc.1, rfl⟩) ?_
    refine C_iconst dX7_marks_36 ?_
    refine C_iald (v := vi (mat (σ.2 2) 0)) dX7_marks_37 (by omega) (by omega) (fun h hc => (hc.rd2 hw4 (by omega) (by omega)).imp (fun vs q => ⟨q.1, q.2.trans (congrArg (fun z => some (vi (mat z 0))) (show (mfl (mfl (mfl (mfl σ 9 58) 10 43) 11 63) 12 39).2 2 = σ.2 2 by simp [mfl, mar, upF]))⟩)) ?_
    have e_37 := hw.a2 0
    refine C_bipush dX7_marks_38 (by decide) ?_
    refine C_icmp_ne (tgt := 65) dX7_marks_40 (by decide) (by omega) (by omega) (fun c_40 => ?_) (fun c_40 => ?_)
    · refine C_iconst dX7_marks_65 ?_
      refine C_iret dX7_marks_66 rfl ?_
      unfold det; rw [c_mmarks, if_neg (by omega), if_neg (by omega)]; exact ⟨rfl, rfl⟩
    · refine C_aload_n dX7_marks_43 rfl ?_
      refine C_get (v := .ref 117) dX7_marks_44 f_X7_7 (fun h hc => ⟨_, hc.1, rfl⟩) ?_
      refine C_iconst dX7_marks_47 ?_
      refine C_iald (v := vi (mat (σ.2 2) 1)) dX7_marks_48 (by omega) (by omega) (fun h hc => (hc.rd2 hw4 (by omega) (by omega)).imp (fun vs q => ⟨q.1, q.2.trans (congrArg (fun z => some (vi (mat z 1))) (show (mfl (mfl (mfl (mfl σ 9 58) 10 43) 11 63) 12 39).2 2 = σ.2 2 by simp [mfl, mar, upF]))⟩)) ?_
      have e_48 := hw.a2 1
      refine C_bipush dX7_marks_49 (by decide) ?_
      refine C_icmp_ne (tgt := 65) dX7_marks_51 (by decide) (by omega) (by omega) (fun c_51 => ?_) (fun c_51 => ?_)
      · refine C_iconst dX7_marks_65 ?_
        refine C_iret dX7_marks_66 rfl ?_
        unfold det; rw [c_mmarks, if_neg (by omega), if_pos (by omega), if_neg (by omega)]; exact ⟨rfl, rfl⟩
      · refine C_aload_n dX7_marks_54 rfl ?_
        refine C_get (v := .ref 117) dX7_marks_55 f_X7_7 (fun h hc => ⟨_, hc.1, rfl⟩) ?_
        refine C_iconst dX7_marks_58 ?_
        refine C_iald (v := vi (mat (σ.2 2) 2)) dX7_marks_59 (by omega) (by omega) (fun h hc => (hc.rd2 hw4 (by omega) (by omega)).imp (fun vs q => ⟨q.1, q.2.trans (congrArg (fun z => some (vi (mat z 2))) (show (mfl (mfl (mfl (mfl σ 9 58) 10 43) 11 63) 12 39).2 2 = σ.2 2 by simp [mfl, mar, upF]))⟩)) ?_
        have e_59 := hw.a2 2
        refine C_bipush dX7_marks_60 (by decide) ?_
        refine C_icmp_eq (tgt := 67) dX7_marks_62 (by decide) (by omega) (by omega) (fun c_62 => ?_) (fun c_62 => ?_)
        · refine C_iconst dX7_marks_67 ?_
          refine C_istore_n dX7_marks_68 (by decide) rfl ?_
          simp only [List.set_cons_zero, List.set_cons_succ, jfin0, jfin1, jfin2, jfin3]
          rw [c_mmarks, if_neg (by omega), if_pos (by omega), if_pos (by omega), if_pos (by omega)]
          refine CJ.mono (ls' := [some (.ref 116), some (vi 3), none, none]) (lsub_ok (by repeat (first | exact trivial | refine ⟨rfl, ?_⟩))) (fun _ _ q => q) ?_
          exact t_mmarksL hw4 hd  (7) (by omega) (by omega)
        · refine C_iconst dX7_marks_65 ?_
          refine C_iret dX7_marks_66 rfl ?_
          unfold det; rw [c_mmarks, if_neg (by omega), if_pos (by omega), if_pos (by omega), if_neg (by omega)]; exact ⟨rfl, rfl⟩
theorem r_mmarksL {σ : mS}  {i : Int} (hw : wfm σ)  (fu : Nat) (hi : 3 ≤ i ∧ i ≤ 9) : -1 ≤ (c_mmarksL  fu i σ).1 ∧ (c_mmarksL  fu i σ).1 < 10 := by
  induction fu generalizing σ i with
  | zero => unfold c_mmarksL; omega
  | succ fu ih =>
    unfold c_mmarksL
    split
    · split
      · have e_235 := hw.a2 3
        have hw2 : wfm (mfl σ 9 (mat (σ.2 2) 3)) := wfm_f (k := 9) hw (show (0 : Int) ≤ (mat (σ.2 2) 3) ∧ (mat (σ.2 2) 3) ≤ 126 by omega)
        have e_245 := hw.a2 4
        have hw3 : wfm (mfl (mfl σ 9 (mat (σ.2 2) 3)) 10 (mat (σ.2 2) 4)) := wfm_f (k := 10) hw2 (show (0 : Int) ≤ (mat (σ.2 2) 4) ∧ (mat (σ.2 2) 4) ≤ 126 by omega)
        have e_256 := hw.a2 6
        have hw7 : wfm (mfl (mfl (mfl σ 9 (mat (σ.2 2) 3)) 10 (mat (σ.2 2) 4)) 11 0) := wfm_f (k := 11) hw3 (show (0 : Int) ≤ 0 ∧ 0 ≤ 126 by omega)
        have e_283 := hw.a2 8
        have hw8 : wfm (mfl (mfl (mfl (mfl σ 9 (mat (σ.2 2) 3)) 10 (mat (σ.2 2) 4)) 11 0) 12 (mat (σ.2 2) 8)) := wfm_f (k := 12) hw7 (show (0 : Int) ≤ (mat (σ.2 2) 8) ∧ (mat (σ.2 2) 8) ≤ 126 by omega)
        omega
      · have e_235 := hw.a2 3
        have hw2 : wfm (mfl σ 9 (mat (σ.2 2) 3)) := wfm_f (k := 9) hw (show (0 : Int) ≤ (mat (σ.2 2) 3) ∧ (mat (σ.2 2) 3) ≤ 126 by omega)
        have e_245 := hw.a2 4
        have hw3 : wfm (mfl (mfl σ 9 (mat (σ.2 2) 3)) 10 (mat (σ.2 2) 4)) := wfm_f (k := 10) hw2 (show (0 : Int) ≤ (mat (σ.2 2) 4) ∧ (mat (σ.2 2) 4) ≤ 126 by omega)
        have e_256 := hw.a2 6
        have e_272 := hw.a2 6
        have hw5 : wfm (mfl (mfl (mfl σ 9 (mat (σ.2 2) 3)) 10 (mat (σ.2 2) 4)) 11 (mat (σ.2 2) 6)) := wfm_f (k := 11) hw3 (show (0 : Int) ≤ (mat (σ.2 2) 6) ∧ (mat (σ.2 2) 6) ≤ 126 by omega)
        have e_283 := hw.a2 8
        have hw6 : wfm (mfl (mfl (mfl (mfl σ 9 (mat (σ.2 2) 3)) 10 (mat (σ.2 2) 4)) 11 (mat (σ.2 2) 6)) 12 (mat (σ.2 2) 8)) := wfm_f (k := 12) hw5 (show (0 : Int) ≤ (mat (σ.2 2) 8) ∧ (mat (σ.2 2) 8) ≤ 126 by omega)
        omega
    · split
      · have hw9 : wfm (mfl σ 13 i) := wfm_f (k := 13) hw (show (-1 : Int) ≤ i ∧ i ≤ 400 by omega)
        have g_82 := hw.f1
        omega
      · split
        · have hw9 : wfm (mfl σ 13 i) := wfm_f (k := 13) hw (show (-1 : Int) ≤ i ∧ i ≤ 400 by omega)
          have g_82 := hw.f1
          have e_95 := hw.a2 i
          have r_97 := r_mgood1 (i := i) (c := (mat (σ.2 2) i)) hw9 (by omega) (by omega)
          have r_142 := r_mgood2 (i := i) (c := (mat (σ.2 2) i)) (z := (c_mgood1 (mfl σ 13 i) i (mat (σ.2 2) i))) hw9 (by omega) (by omega) (by omega)
          omega
        · have hw9 : wfm (mfl σ 13 i) := wfm_f (k := 13) hw (show (-1 : Int) ≤ i ∧ i ≤ 400 by omega)
          have g_82 := hw.f1
          have e_95 := hw.a2 i
          have r_97 := r_mgood1 (i := i) (c := (mat (σ.2 2) i)) hw9 (by omega) (by omega)
          have r_142 := r_mgood2 (i := i) (c := (mat (σ.2 2) i)) (z := (c_mgood1 (mfl σ 13 i) i (mat (σ.2 2) i))) hw9 (by omega) (by omega) (by omega)
          exact ih hw9 (by omega)
theorem r_mmarks {σ : mS}  (hw : wfm σ)  : -1 ≤ (c_mmarks σ ).1 ∧ (c_mmarks σ ).1 < 10 := by
  unfold c_mmarks
  split
  · have hw1 : wfm (mfl σ 9 58) := wfm_f (k := 9) hw (show (0 : Int) ≤ 58 ∧ 58 ≤ 126 by omega)
    have hw2 : wfm (mfl (mfl σ 9 58) 10 43) := wfm_f (k := 10) hw1 (show (0 : Int) ≤ 43 ∧ 43 ≤ 126 by omega)
    have hw3 : wfm (mfl (mfl (mfl σ 9 58) 10 43) 11 63) := wfm_f (k := 11) hw2 (show (0 : Int) ≤ 63 ∧ 63 ≤ 126 by omega)
    have hw4 : wfm (mfl (mfl (mfl (mfl σ 9 58) 10 43) 11 63) 12 39) := wfm_f (k := 12) hw3 (show (0 : Int) ≤ 39 ∧ 39 ≤ 126 by omega)
    have g_25 := hw.f1
    omega
  · split
    · split
      · split
        · have hw1 : wfm (mfl σ 9 58) := wfm_f (k := 9) hw (show (0 : Int) ≤ 58 ∧ 58 ≤ 126 by omega)
          have hw2 : wfm (mfl (mfl σ 9 58) 10 43) := wfm_f (k := 10) hw1 (show (0 : Int) ≤ 43 ∧ 43 ≤ 126 by omega)
          have hw3 : wfm (mfl (mfl (mfl σ 9 58) 10 43) 11 63) := wfm_f (k := 11) hw2 (show (0 : Int) ≤ 63 ∧ 63 ≤ 126 by omega)
          have hw4 : wfm (mfl (mfl (mfl (mfl σ 9 58) 10 43) 11 63) 12 39) := wfm_f (k := 12) hw3 (show (0 : Int) ≤ 39 ∧ 39 ≤ 126 by omega)
          have g_25 := hw.f1
          have e_37 := hw.a2 0
          have e_48 := hw.a2 1
          have e_59 := hw.a2 2
          exact r_mmarksL hw4  (7) (by omega)
        · have hw1 : wfm (mfl σ 9 58) := wfm_f (k := 9) hw (show (0 : Int) ≤ 58 ∧ 58 ≤ 126 by omega)
          have hw2 : wfm (mfl (mfl σ 9 58) 10 43) := wfm_f (k := 10) hw1 (show (0 : Int) ≤ 43 ∧ 43 ≤ 126 by omega)
          have hw3 : wfm (mfl (mfl (mfl σ 9 58) 10 43) 11 63) := wfm_f (k := 11) hw2 (show (0 : Int) ≤ 63 ∧ 63 ≤ 126 by omega)
          have hw4 : wfm (mfl (mfl (mfl (mfl σ 9 58) 10 43) 11 63) 12 39) := wfm_f (k := 12) hw3 (show (0 : Int) ≤ 39 ∧ 39 ≤ 126 by omega)
          have g_25 := hw.f1
          have e_37 := hw.a2 0
          have e_48 := hw.a2 1
          have e_59 := hw.a2 2
          omega
      · have hw1 : wfm (mfl σ 9 58) := wfm_f (k := 9) hw (show (0 : Int) ≤ 58 ∧ 58 ≤ 126 by omega)
        have hw2 : wfm (mfl (mfl σ 9 58) 10 43) := wfm_f (k := 10) hw1 (show (0 : Int) ≤ 43 ∧ 43 ≤ 126 by omega)
        have hw3 : wfm (mfl (mfl (mfl σ 9 58) 10 43) 11 63) := wfm_f (k := 11) hw2 (show (0 : Int) ≤ 63 ∧ 63 ≤ 126 by omega)
        have hw4 : wfm (mfl (mfl (mfl (mfl σ 9 58) 10 43) 11 63) 12 39) := wfm_f (k := 12) hw3 (show (0 : Int) ≤ 39 ∧ 39 ≤ 126 by omega)
        have g_25 := hw.f1
        have e_37 := hw.a2 0
        have e_48 := hw.a2 1
        omega
    · have hw1 : wfm (mfl σ 9 58) := wfm_f (k := 9) hw (show (0 : Int) ≤ 58 ∧ 58 ≤ 126 by omega)
      have hw2 : wfm (mfl (mfl σ 9 58) 10 43) := wfm_f (k := 10) hw1 (show (0 : Int) ≤ 43 ∧ 43 ≤ 126 by omega)
      have hw3 : wfm (mfl (mfl (mfl σ 9 58) 10 43) 11 63) := wfm_f (k := 11) hw2 (show (0 : Int) ≤ 63 ∧ 63 ≤ 126 by omega)
      have hw4 : wfm (mfl (mfl (mfl (mfl σ 9 58) 10 43) 11 63) 12 39) := wfm_f (k := 12) hw3 (show (0 : Int) ≤ 39 ∧ 39 ≤ 126 by omega)
      have g_25 := hw.f1
      have e_37 := hw.a2 0
      omega
theorem w_mmarksL {σ : mS}  {i : Int} (hw : wfm σ)  (fu : Nat) (hi : 3 ≤ i ∧ i ≤ 9) : wfm (c_mmarksL  fu i σ).2 := by
  induction fu generalizing σ i with
  | zero => exact hw
  | succ fu ih =>
    unfold c_mmarksL
    split
    · split
      · have e_235 := hw.a2 3
        have hw2 : wfm (mfl σ 9 (mat (σ.2 2) 3)) := wfm_f (k := 9) hw (show (0 : Int) ≤ (mat (σ.2 2) 3) ∧ (mat (σ.2 2) 3) ≤ 126 by omega)
        have e_245 := hw.a2 4
        have hw3 : wfm (mfl (mfl σ 9 (mat (σ.2 2) 3)) 10 (mat (σ.2 2) 4)) := wfm_f (k := 10) hw2 (show (0 : Int) ≤ (mat (σ.2 2) 4) ∧ (mat (σ.2 2) 4) ≤ 126 by omega)
        have e_256 := hw.a2 6
        have hw7 : wfm (mfl (mfl (mfl σ 9 (mat (σ.2 2) 3)) 10 (mat (σ.2 2) 4)) 11 0) := wfm_f (k := 11) hw3 (show (0 : Int) ≤ 0 ∧ 0 ≤ 126 by omega)
        have e_283 := hw.a2 8
        have hw8 : wfm (mfl (mfl (mfl (mfl σ 9 (mat (σ.2 2) 3)) 10 (mat (σ.2 2) 4)) 11 0) 12 (mat (σ.2 2) 8)) := wfm_f (k := 12) hw7 (show (0 : Int) ≤ (mat (σ.2 2) 8) ∧ (mat (σ.2 2) 8) ≤ 126 by omega)
        exact hw8
      · have e_235 := hw.a2 3
        have hw2 : wfm (mfl σ 9 (mat (σ.2 2) 3)) := wfm_f (k := 9) hw (show (0 : Int) ≤ (mat (σ.2 2) 3) ∧ (mat (σ.2 2) 3) ≤ 126 by omega)
        have e_245 := hw.a2 4
        have hw3 : wfm (mfl (mfl σ 9 (mat (σ.2 2) 3)) 10 (mat (σ.2 2) 4)) := wfm_f (k := 10) hw2 (show (0 : Int) ≤ (mat (σ.2 2) 4) ∧ (mat (σ.2 2) 4) ≤ 126 by omega)
        have e_256 := hw.a2 6
        have e_272 := hw.a2 6
        have hw5 : wfm (mfl (mfl (mfl σ 9 (mat (σ.2 2) 3)) 10 (mat (σ.2 2) 4)) 11 (mat (σ.2 2) 6)) := wfm_f (k := 11) hw3 (show (0 : Int) ≤ (mat (σ.2 2) 6) ∧ (mat (σ.2 2) 6) ≤ 126 by omega)
        have e_283 := hw.a2 8
        have hw6 : wfm (mfl (mfl (mfl (mfl σ 9 (mat (σ.2 2) 3)) 10 (mat (σ.2 2) 4)) 11 (mat (σ.2 2) 6)) 12 (mat (σ.2 2) 8)) := wfm_f (k := 12) hw5 (show (0 : Int) ≤ (mat (σ.2 2) 8) ∧ (mat (σ.2 2) 8) ≤ 126 by omega)
        exact hw6
    · split
      · have hw9 : wfm (mfl σ 13 i) := wfm_f (k := 13) hw (show (-1 : Int) ≤ i ∧ i ≤ 400 by omega)
        have g_82 := hw.f1
        exact hw9
      · split
        · have hw9 : wfm (mfl σ 13 i) := wfm_f (k := 13) hw (show (-1 : Int) ≤ i ∧ i ≤ 400 by omega)
          have g_82 := hw.f1
          have e_95 := hw.a2 i
          have r_97 := r_mgood1 (i := i) (c := (mat (σ.2 2) i)) hw9 (by omega) (by omega)
          have r_142 := r_mgood2 (i := i) (c := (mat (σ.2 2) i)) (z := (c_mgood1 (mfl σ 13 i) i (mat (σ.2 2) i))) hw9 (by omega) (by omega) (by omega)
          exact hw9
        · have hw9 : wfm (mfl σ 13 i) := wfm_f (k := 13) hw (show (-1 : Int) ≤ i ∧ i ≤ 400 by omega)
          have g_82 := hw.f1
          have e_95 := hw.a2 i
          have r_97 := r_mgood1 (i := i) (c := (mat (σ.2 2) i)) hw9 (by omega) (by omega)
          have r_142 := r_mgood2 (i := i) (c := (mat (σ.2 2) i)) (z := (c_mgood1 (mfl σ 13 i) i (mat (σ.2 2) i))) hw9 (by omega) (by omega) (by omega)
          exact ih hw9 (by omega)
theorem w_mmarks {σ : mS}  (hw : wfm σ)  : wfm (c_mmarks σ ).2 := by
  unfold c_mmarks
  split
  · have hw1 : wfm (mfl σ 9 58) := wfm_f (k := 9) hw (show (0 : Int) ≤ 58 ∧ 58 ≤ 126 by omega)
    have hw2 : wfm (mfl (mfl σ 9 58) 10 43) := wfm_f (k := 10) hw1 (show (0 : Int) ≤ 43 ∧ 43 ≤ 126 by omega)
    have hw3 : wfm (mfl (mfl (mfl σ 9 58) 10 43) 11 63) := wfm_f (k := 11) hw2 (show (0 : Int) ≤ 63 ∧ 63 ≤ 126 by omega)
    have hw4 : wfm (mfl (mfl (mfl (mfl σ 9 58) 10 43) 11 63) 12 39) := wfm_f (k := 12) hw3 (show (0 : Int) ≤ 39 ∧ 39 ≤ 126 by omega)
    have g_25 := hw.f1
    exact hw4
  · split
    · split
      · split
        · have hw1 : wfm (mfl σ 9 58) := wfm_f (k := 9) hw (show (0 : Int) ≤ 58 ∧ 58 ≤ 126 by omega)
          have hw2 : wfm (mfl (mfl σ 9 58) 10 43) := wfm_f (k := 10) hw1 (show (0 : Int) ≤ 43 ∧ 43 ≤ 126 by omega)
          have hw3 : wfm (mfl (mfl (mfl σ 9 58) 10 43) 11 63) := wfm_f (k := 11) hw2 (show (0 : Int) ≤ 63 ∧ 63 ≤ 126 by omega)
          have hw4 : wfm (mfl (mfl (mfl (mfl σ 9 58) 10 43) 11 63) 12 39) := wfm_f (k := 12) hw3 (show (0 : Int) ≤ 39 ∧ 39 ≤ 126 by omega)
          have g_25 := hw.f1
          have e_37 := hw.a2 0
          have e_48 := hw.a2 1
          have e_59 := hw.a2 2
          exact w_mmarksL hw4  (7) (by omega)
        · have hw1 : wfm (mfl σ 9 58) := wfm_f (k := 9) hw (show (0 : Int) ≤ 58 ∧ 58 ≤ 126 by omega)
          have hw2 : wfm (mfl (mfl σ 9 58) 10 43) := wfm_f (k := 10) hw1 (show (0 : Int) ≤ 43 ∧ 43 ≤ 126 by omega)
          have hw3 : wfm (mfl (mfl (mfl σ 9 58) 10 43) 11 63) := wfm_f (k := 11) hw2 (show (0 : Int) ≤ 63 ∧ 63 ≤ 126 by omega)
          have hw4 : wfm (mfl (mfl (mfl (mfl σ 9 58) 10 43) 11 63) 12 39) := wfm_f (k := 12) hw3 (show (0 : Int) ≤ 39 ∧ 39 ≤ 126 by omega)
          have g_25 := hw.f1
          have e_37 := hw.a2 0
          have e_48 := hw.a2 1
          have e_59 := hw.a2 2
          exact hw4
      · have hw1 : wfm (mfl σ 9 58) := wfm_f (k := 9) hw (show (0 : Int) ≤ 58 ∧ 58 ≤ 126 by omega)
        have hw2 : wfm (mfl (mfl σ 9 58) 10 43) := wfm_f (k := 10) hw1 (show (0 : Int) ≤ 43 ∧ 43 ≤ 126 by omega)
        have hw3 : wfm (mfl (mfl (mfl σ 9 58) 10 43) 11 63) := wfm_f (k := 11) hw2 (show (0 : Int) ≤ 63 ∧ 63 ≤ 126 by omega)
        have hw4 : wfm (mfl (mfl (mfl (mfl σ 9 58) 10 43) 11 63) 12 39) := wfm_f (k := 12) hw3 (show (0 : Int) ≤ 39 ∧ 39 ≤ 126 by omega)
        have g_25 := hw.f1
        have e_37 := hw.a2 0
        have e_48 := hw.a2 1
        exact hw4
    · have hw1 : wfm (mfl σ 9 58) := wfm_f (k := 9) hw (show (0 : Int) ≤ 58 ∧ 58 ≤ 126 by omega)
      have hw2 : wfm (mfl (mfl σ 9 58) 10 43) := wfm_f (k := 10) hw1 (show (0 : Int) ≤ 43 ∧ 43 ≤ 126 by omega)
      have hw3 : wfm (mfl (mfl (mfl σ 9 58) 10 43) 11 63) := wfm_f (k := 11) hw2 (show (0 : Int) ≤ 63 ∧ 63 ≤ 126 by omega)
      have hw4 : wfm (mfl (mfl (mfl (mfl σ 9 58) 10 43) 11 63) 12 39) := wfm_f (k := 12) hw3 (show (0 : Int) ≤ 39 ∧ 39 ≤ 126 by omega)
      have g_25 := hw.f1
      have e_37 := hw.a2 0
      exact hw4
