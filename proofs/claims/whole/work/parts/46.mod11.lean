def c_minterchange (σ : mS) (a : Int) : Int × mS := (if (σ.1 23) = 0 then (0, (mfl σ 0 1)) else (if a = 0 then ((σ.1 24), (mfl σ 0 0)) else (if a = 1 then ((σ.1 33), (mfl σ 0 0)) else (if a = 2 then ((σ.1 39), (mfl σ 0 0)) else (if a = 3 then ((σ.1 32), (mfl σ 0 0)) else ((-1), (mfl σ 0 0)))))))
theorem t_minterchange {l : Launch} {G : jG} {d : Nat} {σ : mS} {a : Int} (hw : wfm σ) (hd : 0 ≤ d) (ha : rg a) : CJ jMod mown l G (Yx mX7_interchange) d 0 0 0 [some (.ref 116), some (vi a)] [] σ (det (some (vi (c_minterchange σ a).1)) (c_minterchange σ a).2) := by
  refine C_aload_n dX7_interchange_0 rfl ?_
  refine C_aload_n dX7_interchange_1 rfl ?_
  refine C_get (v := vi (σ.1 23)) dX7_interchange_2 f_X7_253 (fun h hc => ⟨_, hc.1, rfl⟩) ?_
  have g_2 := hw.f23
  refine C_if_eq (tgt := 12) dX7_interchange_5 (by decide) (by omega) (fun c_5 => ?_) (fun c_5 => ?_)
  · refine C_iconst dX7_interchange_12 ?_
    refine C_put (σ' := (mfl σ 0 1)) dX7_interchange_13 f_X7_102 jfit_i mown_0 (fun h hc => hc.pf0) ?_
    have hw2 : wfm (mfl σ 0 1) := wfm_f (k := 0) hw (show (0 : Int) ≤ 1 ∧ 1 ≤ 2 by omega)
    refine C_aload_n dX7_interchange_16 rfl ?_
    refine C_get (v := vi (σ.1 23)) dX7_interchange_17 f_X7_253 (fun h hc => ⟨_, hc.1, congrArg (fun z => some (vi z)) (show ((mfl σ 0 1).1 23) = (σ.1 23) by simp [mfl, mar, upF])⟩) ?_
    have g_17 := hw.f23
    refine C_if_ne (tgt := 25) dX7_interchange_20 (by decide) (by omega) (fun c_20 => absurd c_20 (by omega)) (fun c_20 => ?_)
    refine C_iconst dX7_interchange_23 ?_
    refine C_iret dX7_interchange_24 rfl ?_
    unfold det; rw [c_minterchange, if_pos (by omega)]; exact ⟨rfl, rfl⟩
  · refine C_iconst dX7_interchange_8 ?_
    refine C_goto (tgt := 13) dX7_interchange_9 (by decide) ?_
    refine C_put (σ' := (mfl σ 0 0)) dX7_interchange_13 f_X7_102 jfit_i mown_0 (fun h hc => hc.pf0) ?_
    have hw4 : wfm (mfl σ 0 0) := wfm_f (k := 0) hw (show (0 : Int) ≤ 0 ∧ 0 ≤ 2 by omega)
    refine C_aload_n dX7_interchange_16 rfl ?_
    refine C_get (v := vi (σ.1 23)) dX7_interchange_17 f_X7_253 (fun h hc => ⟨_, hc.1, congrArg (fun z => some (vi z)) (show ((mfl σ 0 0).1 23) = (σ.1 23) by simp [mfl, mar, upF])⟩) ?_
    have g_17 := hw.f23
    refine C_if_ne (tgt := 25) dX7_interchange_20 (by decide) (by omega) (fun c_20 => ?_) (fun c_20 => absurd c_20 (by omega))
    refine C_iload_n dX7_interchange_25 rfl ?_
    refine C_if_ne (tgt := 36) dX7_interchange_26 (by decide) (by omega) (fun c_26 => ?_) (fun c_26 => ?_)
    · refine C_iload_n dX7_interchange_36 rfl ?_
      refine C_iconst dX7_interchange_37 ?_
      refine C_icmp_ne (tgt := 48) dX7_interchange_38 (by decide) (by omega) (by omega) (fun c_38 => ?_) (fun c_38 => ?_)
      · refine C_iload_n dX7_interchange_48 rfl ?_
        refine C_iconst dX7_interchange_49 ?_
        refine C_icmp_ne (tgt := 60) dX7_interchange_50 (by decide) (by omega) (by omega) (fun c_50 => ?_) (fun c_50 => ?_)
        · refine C_iload_n dX7_interchange_60 rfl ?_
          refine C_iconst dX7_interchange_61 ?_
          refine C_icmp_ne (tgt := 72) dX7_interchange_62 (by decide) (by omega) (by omega) (fun c_62 => ?_) (fun c_62 => ?_)
          · refine C_iconst dX7_interchange_72 ?_
            refine C_iret dX7_interchange_73 rfl ?_
            unfold det; rw [c_minterchange, if_neg (by omega), if_neg (by omega), if_neg (by omega), if_neg (by omega), if_neg (by omega)]; exact ⟨rfl, rfl⟩
          · refine C_aload_n dX7_interchange_65 rfl ?_
            refine C_get (v := vi (σ.1 32)) dX7_interchange_66 f_X7_260 (fun h hc => ⟨_, hc.1, congrArg (fun z => some (vi z)) (show ((mfl σ 0 0).1 32) = (σ.1 32) by simp [mfl, mar, upF])⟩) ?_
            have g_66 := hw.f32
            refine C_goto (tgt := 73) dX7_interchange_69 (by decide) ?_
            refine C_iret dX7_interchange_73 rfl ?_
            unfold det; rw [c_minterchange, if_neg (by omega), if_neg (by omega), if_neg (by omega), if_neg (by omega), if_pos (by omega)]; exact ⟨rfl, rfl⟩
        · refine C_aload_n dX7_interchange_53 rfl ?_
          refine C_get (v := vi (σ.1 39)) dX7_interchange_54 f_X7_199 (fun h hc => ⟨_, hc.1, congrArg (fun z => some (vi z)) (show ((mfl σ 0 0).1 39) = (σ.1 39) by simp [mfl, mar, upF])⟩) ?_
          have g_54 := hw.f39
          refine C_goto (tgt := 73) dX7_interchange_57 (by decide) ?_
          refine C_iret dX7_interchange_73 rfl ?_
          unfold det; rw [c_minterchange, if_neg (by omega), if_neg (by omega), if_neg (by omega), if_pos (by omega)]; exact ⟨rfl, rfl⟩
      · refine C_aload_n dX7_interchange_41 rfl ?_
        refine C_get (v := vi (σ.1 33)) dX7_interchange_42 f_X7_196 (fun h hc => ⟨_, hc.1, congrArg (fun z => some (vi z)) (show ((mfl σ 0 0).1 33) = (σ.1 33) by simp [mfl, mar, upF])⟩) ?_
        have g_42 := hw.f33
        refine C_goto (tgt := 73) dX7_interchange_45 (by decide) ?_
        refine C_iret dX7_interchange_73 rfl ?_
        unfold det; rw [c_minterchange, if_neg (by omega), if_neg (by omega), if_pos (by omega)]; exact ⟨rfl, rfl⟩
    · refine C_aload_n dX7_interchange_29 rfl ?_
      refine C_get (v := vi (σ.1 24)) dX7_interchange_30 f_X7_187 (fun h hc => ⟨_, hc.1, congrArg (fun z => some (vi z)) (show ((mfl σ 0 0).1 24) = (σ.1 24) by simp [mfl, mar, upF])⟩) ?_
      have g_30 := hw.f24
      refine C_goto (tgt := 73) dX7_interchange_33 (by decide) ?_
      refine C_iret dX7_interchange_73 rfl ?_
      unfold det; rw [c_minterchange, if_neg (by omega), if_pos (by omega)]; exact ⟨rfl, rfl⟩
theorem w_minterchange {σ : mS} {a : Int} (hw : wfm σ) (ha : rg a) : wfm (c_minterchange σ a).2 := by
  unfold c_minterchange
  split
  · have g_2 := hw.f23
    have hw2 : wfm (mfl σ 0 1) := wfm_f (k := 0) hw (show (0 : Int) ≤ 1 ∧ 1 ≤ 2 by omega)
    have g_17 := hw.f23
    exact hw2
  · split
    · have g_2 := hw.f23
      have hw4 : wfm (mfl σ 0 0) := wfm_f (k := 0) hw (show (0 : Int) ≤ 0 ∧ 0 ≤ 2 by omega)
      have g_17 := hw.f23
      have g_30 := hw.f24
      exact hw4
    · split
      · have g_2 := hw.f23
        have hw4 : wfm (mfl σ 0 0) := wfm_f (k := 0) hw (show (0 : Int) ≤ 0 ∧ 0 ≤ 2 by omega)
        have g_17 := hw.f23
        have g_42 := hw.f33
        exact hw4
      · split
        · have g_2 := hw.f23
          have hw4 : wfm (mfl σ 0 0) := wfm_f (k := 0) hw (show (0 : Int) ≤ 0 ∧ 0 ≤ 2 by omega)
          have g_17 := hw.f23
          have g_54 := hw.f39
          exact hw4
        · split
          · have g_2 := hw.f23
            have hw4 : wfm (mfl σ 0 0) := wfm_f (k := 0) hw (show (0 : Int) ≤ 0 ∧ 0 ≤ 2 by omega)
            have g_17 := hw.f23
            have g_66 := hw.f32
            exact hw4
          · have g_2 := hw.f23
            have hw4 : wfm (mfl σ 0 0) := wfm_f (k := 0) hw (show (0 : Int) ≤ 0 ∧ 0 ≤ 2 by omega)
            have g_17 := hw.f23
            exact hw4
def c_mmessage (σ : mS) (a : Int) (b : Int) : Int × mS := (if (σ.1 23) = 0 then (0, (mfl σ 0 1)) else (if a < 0 then ((-1), (mfl σ 0 0)) else (if (σ.1 33) ≤ a then ((-1), (mfl σ 0 0)) else (if b < 0 then ((-1), (mfl σ 0 0)) else (if b ≤ 3 then (if b = 0 then ((mat (σ.2 37) a), (mfl σ 0 0)) else (if b = 1 then ((mat (σ.2 38) a), (mfl σ 0 0)) else (if b = 2 then ((((mat (σ.2 35) a) - (mat (σ.2 34) a)) + 1), (mfl σ 0 0)) else ((mat (σ.2 36) a), (mfl σ 0 0))))) else ((-1), (mfl σ 0 0)))))))
theorem t_mmessage {l : Launch} {G : jG} {d : Nat} {σ : mS} {a : Int} {b : Int} (hw : wfm σ) (hd : 0 ≤ d) (ha : rg a) (hb : rg b) : CJ jMod mown l G (Yx mX7_message) d 0 0 0 [some (.ref 116), some (vi a), some (vi b)] [] σ (det (some (vi (c_mmessage σ a b).1)) (c_mmessage σ a b).2) := by
  refine C_aload_n dX7_message_0 rfl ?_
  refine C_aload_n dX7_message_1 rfl ?_
  refine C_get (v := vi (σ.1 23)) dX7_message_2 f_X7_253 (fun h hc => ⟨_, hc.1, rfl⟩) ?_
  have g_2 := hw.f23
  refine C_if_eq (tgt := 12) dX7_message_5 (by decide) (by omega) (fun c_5 => ?_) (fun c_5 => ?_)
  · refine C_iconst dX7_message_12 ?_
    refine C_put (σ' := (mfl σ 0 1)) dX7_message_13 f_X7_102 jfit_i mown_0 (fun h hc => hc.pf0) ?_
    have hw2 : wfm (mfl σ 0 1) := wfm_f (k := 0) hw (show (0 : Int) ≤ 1 ∧ 1 ≤ 2 by omega)
    refine C_aload_n dX7_message_16 rfl ?_
    refine C_get (v := vi (σ.1 23)) dX7_message_17 f_X7_253 (fun h hc => ⟨_, hc.1, congrArg (fun z => some (vi z)) (show ((mfl σ 0 1).1 23) = (σ.1 23) by simp [mfl, mar, upF])⟩) ?_
    have g_17 := hw.f23
    refine C_if_eq (tgt := 44) dX7_message_20 (by decide) (by omega) (fun c_20 => ?_) (fun c_20 => absurd c_20 (by omega))
    refine C_aload_n dX7_message_44 rfl ?_
    refine C_get (v := vi (σ.1 23)) dX7_message_45 f_X7_253 (fun h hc => ⟨_, hc.1, congrArg (fun z => some (vi z)) (show ((mfl σ 0 1).1 23) = (σ.1 23) by simp [mfl, mar, upF])⟩) ?_
    have g_45 := hw.f23
    refine C_if_eq (tgt := 55) dX7_message_48 (by decide) (by omega) (fun c_48 => ?_) (fun c_48 => absurd c_48 (by omega))
    refine C_iconst dX7_message_55 ?_
    refine C_iret dX7_message_56 rfl ?_
    unfold det; rw [c_mmessage, if_pos (by omega)]; exact ⟨rfl, rfl⟩
  · refine C_iconst dX7_message_8 ?_
    refine C_goto (tgt := 13) dX7_message_9 (by decide) ?_
    refine C_put (σ' := (mfl σ 0 0)) dX7_message_13 f_X7_102 jfit_i mown_0 (fun h hc => hc.pf0) ?_
    have hw5 : wfm (mfl σ 0 0) := wfm_f (k := 0) hw (show (0 : Int) ≤ 0 ∧ 0 ≤ 2 by omega)
    refine C_aload_n dX7_message_16 rfl ?_
    refine C_get (v := vi (σ.1 23)) dX7_message_17 f_X7_253 (fun h hc => ⟨_, hc.1, congrArg (fun z => some (vi z)) (show ((mfl σ 0 0).1 23) = (σ.1 23) by simp [mfl, mar, upF])⟩) ?_
    have g_17 := hw.f23
    refine C_if_eq (tgt := 44) dX7_message_20 (by decide) (by omega) (fun c_20 => absurd c_20 (by omega)) (fun c_20 => ?_)
    refine C_iload_n dX7_message_23 rfl ?_
    refine C_if_lt (tgt := 44) dX7_message_24 (by decide) (by omega) (fun c_24 => ?_) (fun c_24 => ?_)
    · refine C_aload_n dX7_message_44 rfl ?_
      refine C_get (v := vi (σ.1 23)) dX7_message_45 f_X7_253 (fun h hc => ⟨_, hc.1, congrArg (fun z => some (vi z)) (show ((mfl σ 0 0).1 23) = (σ.1 23) by simp [mfl, mar, upF])⟩) ?_
      have g_45 := hw.f23
      refine C_if_eq (tgt := 55) dX7_message_48 (by decide) (by omega) (fun c_48 => absurd c_48 (by omega)) (fun c_48 => ?_)
      refine C_iconst dX7_message_51 ?_
      refine C_goto (tgt := 56) dX7_message_52 (by decide) ?_
      refine C_iret dX7_message_56 rfl ?_
      unfold det; rw [c_mmessage, if_neg (by omega), if_pos (by omega)]; exact ⟨rfl, rfl⟩
    · refine C_iload_n dX7_message_27 rfl ?_
      refine C_aload_n dX7_message_28 rfl ?_
      refine C_get (v := vi (σ.1 33)) dX7_message_29 f_X7_196 (fun h hc => ⟨_, hc.1, congrArg (fun z => some (vi z)) (show ((mfl σ 0 0).1 33) = (σ.1 33) by simp [mfl, mar, upF])⟩) ?_
      have g_29 := hw.f33
      refine C_icmp_ge (tgt := 44) dX7_message_32 (by decide) (by omega) (by omega) (fun c_32 => ?_) (fun c_32 => ?_)
      · refine C_aload_n dX7_message_44 rfl ?_
        refine C_get (v := vi (σ.1 23)) dX7_message_45 f_X7_253 (fun h hc => ⟨_, hc.1, congrArg (fun z => some (vi z)) (show ((mfl σ 0 0).1 23) = (σ.1 23) by simp [mfl, mar, upF])⟩) ?_
        have g_45 := hw.f23
        refine C_if_eq (tgt := 55) dX7_message_48 (by decide) (by omega) (fun c_48 => absurd c_48 (by omega)) (fun c_48 => ?_)
        refine C_iconst dX7_message_51 ?_
        refine C_goto (tgt := 56) dX7_message_52 (by decide) ?_
        refine C_iret dX7_message_56 rfl ?_
        unfold det; rw [c_mmessage, if_neg (by omega), if_neg (by omega), if_pos (by omega)]; exact ⟨rfl, rfl⟩
      · refine C_iload_n dX7_message_35 rfl ?_
        refine C_if_lt (tgt := 44) dX7_message_36 (by decide) (by omega) (fun c_36 => ?_) (fun c_36 => ?_)
        · refine C_aload_n dX7_message_44 rfl ?_
          refine C_get (v := vi (σ.1 23)) dX7_message_45 f_X7_253 (fun h hc => ⟨_, hc.1, congrArg (fun z => some (vi z)) (show ((mfl σ 0 0).1 23) = (σ.1 23) by simp [mfl, mar, upF])⟩) ?_
          have g_45 := hw.f23
          refine C_if_eq (tgt := 55) dX7_message_48 (by decide) (by omega) (fun c_48 => absurd c_48 (by omega)) (fun c_48 => ?_)
          refine C_iconst dX7_message_51 ?_
          refine C_goto (tgt := 56) dX7_message_52 (by decide) ?_
          refine C_iret dX7_message_56 rfl ?_
          unfold det; rw [c_mmessage, if_neg (by omega), if_neg (by omega), if_neg (by omega), if_pos (by omega)]; exact ⟨rfl, rfl⟩
        · refine C_iload_n dX7_message_39 rfl ?_
          refine C_iconst dX7_message_40 ?_
          refine C_icmp_le (tgt := 57) dX7_message_41 (by decide) (by omega) (by omega) (fun c_41 => ?_) (fun c_41 => ?_)
          · refine C_iload_n dX7_message_57 rfl ?_
            refine C_if_ne (tgt := 70) dX7_message_58 (by decide) (by omega) (fun c_58 => ?_) (fun c_58 => ?_)
            · refine C_iload_n dX7_message_70 rfl ?_
              refine C_iconst dX7_message_71 ?_
              refine C_icmp_ne (tgt := 84) dX7_message_72 (by decide) (by omega) (by omega) (fun c_72 => ?_) (fun c_72 => ?_)
              · refine C_iload_n dX7_message_84 rfl ?_
                refine C_iconst dX7_message_85 ?_
                refine C_icmp_ne (tgt := 107) dX7_message_86 (by decide) (by omega) (by omega) (fun c_86 => ?_) (fun c_86 => ?_)
                · refine C_aload_n dX7_message_107 rfl ?_
                  refine C_get (v := .ref 136) dX7_message_108 f_X7_72 (fun h hc => ⟨_, hc.1, rfl⟩) ?_
                  refine C_iload_n dX7_message_111 rfl ?_
                  refine C_iald (v := vi (mat (σ.2 36) a)) dX7_message_112 (by omega) (by omega) (fun h hc => (hc.rd36 hw5 (by omega) (by omega)).imp (fun vs q => ⟨q.1, q.2.trans (congrArg (fun z => some (vi (mat z a))) (show (mfl σ 0 0).2 36 = σ.2 36 by simp [mfl, mar, upF]))⟩)) ?_
                  have e_112 := hw.a36 a
                  refine C_iret dX7_message_113 rfl ?_
                  unfold det; rw [c_mmessage, if_neg (by omega), if_neg (by omega), if_neg (by omega), if_neg (by omega), if_pos (by omega), if_neg (by omega), if_neg (by omega), if_neg (by omega)]; exact ⟨rfl, rfl⟩
                · refine C_aload_n dX7_message_89 rfl ?_
                  refine C_get (v := .ref 135) dX7_message_90 f_X7_69 (fun h hc => ⟨_, hc.1, rfl⟩) ?_
                  refine C_iload_n dX7_message_93 rfl ?_
                  refine C_iald (v := vi (mat (σ.2 35) a)) dX7_message_94 (by omega) (by omega) (fun h hc => (hc.rd35 hw5 (by omega) (by omega)).imp (fun vs q => ⟨q.1, q.2.trans (congrArg (fun z => some (vi (mat z a))) (show (mfl σ 0 0).2 35 = σ.2 35 by simp [mfl, mar, upF]))⟩)) ?_
                  have e_94 := hw.a35 a
                  refine C_aload_n dX7_message_95 rfl ?_
                  refine C_get (v := .ref 134) dX7_message_96 f_X7_66 (fun h hc => ⟨_, hc.1, rfl⟩) ?_
                  refine C_iload_n dX7_message_99 rfl ?_
                  refine C_iald (v := vi (mat (σ.2 34) a)) dX7_message_100 (by omega) (by omega) (fun h hc => (hc.rd34 hw5 (by omega) (by omega)).imp (fun vs q => ⟨q.1, q.2.trans (congrArg (fun z => some (vi (mat z a))) (show (mfl σ 0 0).2 34 = σ.2 34 by simp [mfl, mar, upF]))⟩)) ?_
                  have e_100 := hw.a34 a
                  refine C_isub dX7_message_101 ?_
                  refine C_iconst dX7_message_102 ?_
                  refine C_iadd dX7_message_103 ?_
                  refine C_goto (tgt := 113) dX7_message_104 (by decide) ?_
                  refine C_iret dX7_message_113 rfl ?_
                  unfold det; rw [c_mmessage, if_neg (by omega), if_neg (by omega), if_neg (by omega), if_neg (by omega), if_pos (by omega), if_neg (by omega), if_neg (by omega), if_pos (by omega)]; exact ⟨rfl, rfl⟩
              · refine C_aload_n dX7_message_75 rfl ?_
                refine C_get (v := .ref 138) dX7_message_76 f_X7_78 (fun h hc => ⟨_, hc.1, rfl⟩) ?_
                refine C_iload_n dX7_message_79 rfl ?_
                refine C_iald (v := vi (mat (σ.2 38) a)) dX7_message_80 (by omega) (by omega) (fun h hc => (hc.rd38 hw5 (by omega) (by omega)).imp (fun vs q => ⟨q.1, q.2.trans (congrArg (fun z => some (vi (mat z a))) (show (mfl σ 0 0).2 38 = σ.2 38 by simp [mfl, mar, upF]))⟩)) ?_
                have e_80 := hw.a38 a
                refine C_goto (tgt := 113) dX7_message_81 (by decide) ?_
                refine C_iret dX7_message_113 rfl ?_
                unfold det; rw [c_mmessage, if_neg (by omega), if_neg (by omega), if_neg (by omega), if_neg (by omega), if_pos (by omega), if_neg (by omega), if_pos (by omega)]; exact ⟨rfl, rfl⟩
            · refine C_aload_n dX7_message_61 rfl ?_
              refine C_get (v := .ref 137) dX7_message_62 f_X7_75 (fun h hc => ⟨_, hc.1, rfl⟩) ?_
              refine C_iload_n dX7_message_65 rfl ?_
              refine C_iald (v := vi (mat (σ.2 37) a)) dX7_message_66 (by omega) (by omega) (fun h hc => (hc.rd37 hw5 (by omega) (by omega)).imp (fun vs q => ⟨q.1, q.2.trans (congrArg (fun z => some (vi (mat z a))) (show (mfl σ 0 0).2 37 = σ.2 37 by simp [mfl, mar, upF]))⟩)) ?_
              have e_66 := hw.a37 a
              refine C_goto (tgt := 113) dX7_message_67 (by decide) ?_
              refine C_iret dX7_message_113 rfl ?_
              unfold det; rw [c_mmessage, if_neg (by omega), if_neg (by omega), if_neg (by omega), if_neg (by omega), if_pos (by omega), if_pos (by omega)]; exact ⟨rfl, rfl⟩
          · refine C_aload_n dX7_message_44 rfl ?_
            refine C_get (v := vi (σ.1 23)) dX7_message_45 f_X7_253 (fun h hc => ⟨_, hc.1, congrArg (fun z => some (vi z)) (show ((mfl σ 0 0).1 23) = (σ.1 23) by simp [mfl, mar, upF])⟩) ?_
            have g_45 := hw.f23
            refine C_if_eq (tgt := 55) dX7_message_48 (by decide) (by omega) (fun c_48 => absurd c_48 (by omega)) (fun c_48 => ?_)
            refine C_iconst dX7_message_51 ?_
            refine C_goto (tgt := 56) dX7_message_52 (by decide) ?_
            refine C_iret dX7_message_56 rfl ?_
            unfold det; rw [c_mmessage, if_neg (by omega), if_neg (by omega), if_neg (by omega), if_neg (by omega), if_neg (by omega)]; exact ⟨rfl, rfl⟩
theorem w_mmessage {σ : mS} {a : Int} {b : Int} (hw : wfm σ) (ha : rg a) (hb : rg b) : wfm (c_mmessage σ a b).2 := by
  unfold c_mmessage
  split
  · have g_2 := hw.f23
    have hw2 : wfm (mfl σ 0 1) := wfm_f (k := 0) hw (show (0 : Int) ≤ 1 ∧ 1 ≤ 2 by omega)
    have g_17 := hw.f23
    have g_45 := hw.f23
    exact hw2
  · split
    · have g_2 := hw.f23
      have hw5 : wfm (mfl σ 0 0) := wfm_f (k := 0) hw (show (0 : Int) ≤ 0 ∧ 0 ≤ 2 by omega)
      have g_17 := hw.f23
      have g_45 := hw.f23
      exact hw5
    · split
      · have g_2 := hw.f23
        have hw5 : wfm (mfl σ 0 0) := wfm_f (k := 0) hw (show (0 : Int) ≤ 0 ∧ 0 ≤ 2 by omega)
        have g_17 := hw.f23
        have g_29 := hw.f33
        have g_45 := hw.f23
        exact hw5
      · split
        · have g_2 := hw.f23
          have hw5 : wfm (mfl σ 0 0) := wfm_f (k := 0) hw (show (0 : Int) ≤ 0 ∧ 0 ≤ 2 by omega)
          have g_17 := hw.f23
          have g_29 := hw.f33
          have g_45 := hw.f23
          exact hw5
        · split
          · split
            · have g_2 := hw.f23
              have hw5 : wfm (mfl σ 0 0) := wfm_f (k := 0) hw (show (0 : Int) ≤ 0 ∧ 0 ≤ 2 by omega)
              have g_17 := hw.f23
              have g_29 := hw.f33
              have e_66 := hw.a37 a
              exact hw5
            · split
              · have g_2 := hw.f23
                have hw5 : wfm (mfl σ 0 0) := wfm_f (k := 0) hw (show (0 : Int) ≤ 0 ∧ 0 ≤ 2 by omega)
                have g_17 := hw.f23
                have g_29 := hw.f33
                have e_80 := hw.a38 a
                exact hw5
              · split
                · have g_2 := hw.f23
                  have hw5 : wfm (mfl σ 0 0) := wfm_f (k := 0) hw (show (0 : Int) ≤ 0 ∧ 0 ≤ 2 by omega)
                  have g_17 := hw.f23
                  have g_29 := hw.f33
                  have e_94 := hw.a35 a
                  have e_100 := hw.a34 a
                  exact hw5
                · have g_2 := hw.f23
                  have hw5 : wfm (mfl σ 0 0) := wfm_f (k := 0) hw (show (0 : Int) ≤ 0 ∧ 0 ≤ 2 by omega)
                  have g_17 := hw.f23
                  have g_29 := hw.f33
                  have e_112 := hw.a36 a
                  exact hw5
          · have g_2 := hw.f23
            have hw5 : wfm (mfl σ 0 0) := wfm_f (k := 0) hw (show (0 : Int) ≤ 0 ∧ 0 ≤ 2 by omega)
            have g_17 := hw.f23
            have g_29 := hw.f33
            have g_45 := hw.f23
            exact hw5
def c_mgroup (σ : mS) (a : Int) : Int × mS := (if (σ.1 23) = 0 then (0, (mfl σ 0 1)) else (if a < 0 then ((-1), (mfl σ 0 0)) else (if a < (σ.1 39) then ((mat (σ.2 42) a), (mfl σ 0 0)) else ((-1), (mfl σ 0 0)))))
theorem t_mgroup {l : Launch} {G : jG} {d : Nat} {σ : mS} {a : Int} (hw : wfm σ) (hd : 0 ≤ d) (ha : rg a) : CJ jMod mown l G (Yx mX7_group) d 0 0 0 [some (.ref 116), some (vi a)] [] σ (det (some (vi (c_mgroup σ a).1)) (c_mgroup σ a).2) := by
  refine C_aload_n dX7_group_0 rfl ?_
  refine C_aload_n dX7_group_1 rfl ?_
  refine C_get (v := vi (σ.1 23)) dX7_group_2 f_X7_253 (fun h hc => ⟨_, hc.1, rfl⟩) ?_
  have g_2 := hw.f23
  refine C_if_eq (tgt := 12) dX7_group_5 (by decide) (by omega) (fun c_5 => ?_) (fun c_5 => ?_)
  · refine C_iconst dX7_group_12 ?_
    refine C_put (σ' := (mfl σ 0 1)) dX7_group_13 f_X7_102 jfit_i mown_0 (fun h hc => hc.pf0) ?_
    have hw2 : wfm (mfl σ 0 1) := wfm_f (k := 0) hw (show (0 : Int) ≤ 1 ∧ 1 ≤ 2 by omega)
    refine C_aload_n dX7_group_16 rfl ?_
    refine C_get (v := vi (σ.1 23)) dX7_group_17 f_X7_253 (fun h hc => ⟨_, hc.1, congrArg (fun z => some (vi z)) (show ((mfl σ 0 1).1 23) = (σ.1 23) by simp [mfl, mar, upF])⟩) ?_
    have g_17 := hw.f23
    refine C_if_ne (tgt := 27) dX7_group_20 (by decide) (by omega) (fun c_20 => absurd c_20 (by omega)) (fun c_20 => ?_)
    refine C_iconst dX7_group_23 ?_
    refine C_goto (tgt := 49) dX7_group_24 (by decide) ?_
    refine C_iret dX7_group_49 rfl ?_
    unfold det; rw [c_mgroup, if_pos (by omega)]; exact ⟨rfl, rfl⟩
  · refine C_iconst dX7_group_8 ?_
    refine C_goto (tgt := 13) dX7_group_9 (by decide) ?_
    refine C_put (σ' := (mfl σ 0 0)) dX7_group_13 f_X7_102 jfit_i mown_0 (fun h hc => hc.pf0) ?_
    have hw4 : wfm (mfl σ 0 0) := wfm_f (k := 0) hw (show (0 : Int) ≤ 0 ∧ 0 ≤ 2 by omega)
    refine C_aload_n dX7_group_16 rfl ?_
    refine C_get (v := vi (σ.1 23)) dX7_group_17 f_X7_253 (fun h hc => ⟨_, hc.1, congrArg (fun z => some (vi z)) (show ((mfl σ 0 0).1 23) = (σ.1 23) by simp [mfl, mar, upF])⟩) ?_
    have g_17 := hw.f23
    refine C_if_ne (tgt := 27) dX7_group_20 (by decide) (by omega) (fun c_20 => ?_) (fun c_20 => absurd c_20 (by omega))
    refine C_iload_n dX7_group_27 rfl ?_
    refine C_if_lt (tgt := 39) dX7_group_28 (by decide) (by omega) (fun c_28 => ?_) (fun c_28 => ?_)
    · refine C_iconst dX7_group_39 ?_
      refine C_goto (tgt := 49) dX7_group_40 (by decide) ?_
      refine C_iret dX7_group_49 rfl ?_
      unfold det; rw [c_mgroup, if_neg (by omega), if_pos (by omega)]; exact ⟨rfl, rfl⟩
    · refine C_iload_n dX7_group_31 rfl ?_
      refine C_aload_n dX7_group_32 rfl ?_
      refine C_get (v := vi (σ.1 39)) dX7_group_33 f_X7_199 (fun h hc => ⟨_, hc.1, congrArg (fun z => some (vi z)) (show ((mfl σ 0 0).1 39) = (σ.1 39) by simp [mfl, mar, upF])⟩) ?_
      have g_33 := hw.f39
      refine C_icmp_lt (tgt := 43) dX7_group_36 (by decide) (by omega) (by omega) (fun c_36 => ?_) (fun c_36 => ?_)
      · refine C_aload_n dX7_group_43 rfl ?_
        refine C_get (v := .ref 141) dX7_group_44 f_X7_87 (fun h hc => ⟨_, hc.1, rfl⟩) ?_
        refine C_iload_n dX7_group_47 rfl ?_
        refine C_iald (v := vi (mat (σ.2 42) a)) dX7_group_48 (by omega) (by omega) (fun h hc => (hc.rd42 hw4 (by omega) (by omega)).imp (fun vs q => ⟨q.1, q.2.trans (congrArg (fun z => some (vi (mat z a))) (show (mfl σ 0 0).2 42 = σ.2 42 by simp [mfl, mar, upF]))⟩)) ?_
        have e_48 := hw.a42 a
        refine C_iret dX7_group_49 rfl ?_
        unfold det; rw [c_mgroup, if_neg (by omega), if_neg (by omega), if_pos (by omega)]; exact ⟨rfl, rfl⟩
      · refine C_iconst dX7_group_39 ?_
        refine C_goto (tgt := 49) dX7_group_40 (by decide) ?_
        refine C_iret dX7_group_49 rfl ?_
        unfold det; rw [c_mgroup, if_neg (by omega), if_neg (by omega), if_neg (by omega)]; exact ⟨rfl, rfl⟩
theorem w_mgroup {σ : mS} {a : Int} (hw : wfm σ) (ha : rg a) : wfm (c_mgroup σ a).2 := by
  unfold c_mgroup
  split
  · have g_2 := hw.f23
    have hw2 : wfm (mfl σ 0 1) := wfm_f (k := 0) hw (show (0 : Int) ≤ 1 ∧ 1 ≤ 2 by omega)
    have g_17 := hw.f23
    exact hw2
  · split
    · have g_2 := hw.f23
      have hw4 : wfm (mfl σ 0 0) := wfm_f (k := 0) hw (show (0 : Int) ≤ 0 ∧ 0 ≤ 2 by omega)
      have g_17 := hw.f23
      exact hw4
    · split
      · have g_2 := hw.f23
        have hw4 : wfm (mfl σ 0 0) := wfm_f (k := 0) hw (show (0 : Int) ≤ 0 ∧ 0 ≤ 2 by omega)
        have g_17 := hw.f23
        have g_33 := hw.f39
        have e_48 := hw.a42 a
        exact hw4
      · have g_2 := hw.f23
        have hw4 : wfm (mfl σ 0 0) := wfm_f (k := 0) hw (show (0 : Int) ≤ 0 ∧ 0 ≤ 2 by omega)
        have g_17 := hw.f23
        have g_33 := hw.f39
        exact hw4
def c_mprint (σ : mS) (a : Int) : Int × mS := (if (σ.1 23) = 0 then (0, (mfl σ 0 1)) else (if a = (-1) then ((σ.1 48), (mfl σ 0 0)) else (if a < 0 then ((-1), (mfl σ 0 0)) else (if a < (σ.1 48) then ((mat (σ.2 49) a), (mfl σ 0 0)) else ((-1), (mfl σ 0 0))))))
theorem t_mprint {l : Launch} {G : jG} {d : Nat} {σ : mS} {a : Int} (hw : wfm σ) (hd : 0 ≤ d) (ha : rg a) : CJ jMod mown l G (Yx mX7_print) d 0 0 0 [some (.ref 116), some (vi a)] [] σ (det (some (vi (c_mprint σ a).1)) (c_mprint σ a).2) := by
  refine C_aload_n dX7_print_0 rfl ?_
  refine C_aload_n dX7_print_1 rfl ?_
  refine C_get (v := vi (σ.1 23)) dX7_print_2 f_X7_253 (fun h hc => ⟨_, hc.1, rfl⟩) ?_
  have g_2 := hw.f23
  refine C_if_eq (tgt := 12) dX7_print_5 (by decide) (by omega) (fun c_5 => ?_) (fun c_5 => ?_)
  · refine C_iconst dX7_print_12 ?_
    refine C_put (σ' := (mfl σ 0 1)) dX7_print_13 f_X7_102 jfit_i mown_0 (fun h hc => hc.pf0) ?_
    have hw2 : wfm (mfl σ 0 1) := wfm_f (k := 0) hw (show (0 : Int) ≤ 1 ∧ 1 ≤ 2 by omega)
    refine C_aload_n dX7_print_16 rfl ?_
    refine C_get (v := vi (σ.1 23)) dX7_print_17 f_X7_253 (fun h hc => ⟨_, hc.1, congrArg (fun z => some (vi z)) (show ((mfl σ 0 1).1 23) = (σ.1 23) by simp [mfl, mar, upF])⟩) ?_
    have g_17 := hw.f23
    refine C_if_ne (tgt := 27) dX7_print_20 (by decide) (by omega) (fun c_20 => absurd c_20 (by omega)) (fun c_20 => ?_)
    refine C_iconst dX7_print_23 ?_
    refine C_goto (tgt := 61) dX7_print_24 (by decide) ?_
    refine C_iret dX7_print_61 rfl ?_
    unfold det; rw [c_mprint, if_pos (by omega)]; exact ⟨rfl, rfl⟩
  · refine C_iconst dX7_print_8 ?_
    refine C_goto (tgt := 13) dX7_print_9 (by decide) ?_
    refine C_put (σ' := (mfl σ 0 0)) dX7_print_13 f_X7_102 jfit_i mown_0 (fun h hc => hc.pf0) ?_
    have hw4 : wfm (mfl σ 0 0) := wfm_f (k := 0) hw (show (0 : Int) ≤ 0 ∧ 0 ≤ 2 by omega)
    refine C_aload_n dX7_print_16 rfl ?_
    refine C_get (v := vi (σ.1 23)) dX7_print_17 f_X7_253 (fun h hc => ⟨_, hc.1, congrArg (fun z => some (vi z)) (show ((mfl σ 0 0).1 23) = (σ.1 23) by simp [mfl, mar, upF])⟩) ?_
    have g_17 := hw.f23
    refine C_if_ne (tgt := 27) dX7_print_20 (by decide) (by omega) (fun c_20 => ?_) (fun c_20 => absurd c_20 (by omega))
    refine C_iload_n dX7_print_27 rfl ?_
    refine C_iconst dX7_print_28 ?_
    refine C_icmp_ne (tgt := 39) dX7_print_29 (by decide) (by omega) (by omega) (fun c_29 => ?_) (fun c_29 => ?_)
    · refine C_iload_n dX7_print_39 rfl ?_
      refine C_if_lt (tgt := 51) dX7_print_40 (by decide) (by omega) (fun c_40 => ?_) (fun c_40 => ?_)
      · refine C_iconst dX7_print_51 ?_
        refine C_goto (tgt := 61) dX7_print_52 (by decide) ?_
        refine C_iret dX7_print_61 rfl ?_
        unfold det; rw [c_mprint, if_neg (by omega), if_neg (by omega), if_pos (by omega)]; exact ⟨rfl, rfl⟩
      · refine C_iload_n dX7_print_43 rfl ?_
        refine C_aload_n dX7_print_44 rfl ?_
        refine C_get (v := vi (σ.1 48)) dX7_print_45 f_X7_275 (fun h hc => ⟨_, hc.1, congrArg (fun z => some (vi z)) (show ((mfl σ 0 0).1 48) = (σ.1 48) by simp [mfl, mar, upF])⟩) ?_
        have g_45 := hw.f48
        refine C_icmp_lt (tgt := 55) dX7_print_48 (by decide) (by omega) (by omega) (fun c_48 => ?_) (fun c_48 => ?_)
        · refine C_aload_n dX7_print_55 rfl ?_
          refine C_get (v := .ref 144) dX7_print_56 f_X7_96 (fun h hc => ⟨_, hc.1, rfl⟩) ?_
          refine C_iload_n dX7_print_59 rfl ?_
          refine C_iald (v := vi (mat (σ.2 49) a)) dX7_print_60 (by omega) (by omega) (fun h hc => (hc.rd49 hw4 (by omega) (by omega)).imp (fun vs q => ⟨q.1, q.2.trans (congrArg (fun z => some (vi (mat z a))) (show (mfl σ 0 0).2 49 = σ.2 49 by simp [mfl, mar, upF]))⟩)) ?_
          have e_60 := hw.a49 a
          refine C_iret dX7_print_61 rfl ?_
          unfold det; rw [c_mprint, if_neg (by omega), if_neg (by omega), if_neg (by omega), if_pos (by omega)]; exact ⟨rfl, rfl⟩
        · refine C_iconst dX7_print_51 ?_
          refine C_goto (tgt := 61) dX7_print_52 (by decide) ?_
          refine C_iret dX7_print_61 rfl ?_
          unfold det; rw [c_mprint, if_neg (by omega), if_neg (by omega), if_neg (by omega), if_neg (by omega)]; exact ⟨rfl, rfl⟩
    · refine C_aload_n dX7_print_32 rfl ?_
      refine C_get (v := vi (σ.1 48)) dX7_print_33 f_X7_275 (fun h hc => ⟨_, hc.1, congrArg (fun z => some (vi z)) (show ((mfl σ 0 0).1 48) = (σ.1 48) by simp [mfl, mar, upF])⟩) ?_
      have g_33 := hw.f48
      refine C_goto (tgt := 61) dX7_print_36 (by decide) ?_
      refine C_iret dX7_print_61 rfl ?_
      unfold det; rw [c_mprint, if_neg (by omega), if_pos (by omega)]; exact ⟨rfl, rfl⟩
theorem w_mprint {σ : mS} {a : Int} (hw : wfm σ) (ha : rg a) : wfm (c_mprint σ a).2 := by
  unfold c_mprint
  split
  · have g_2 := hw.f23
    have hw2 : wfm (mfl σ 0 1) := wfm_f (k := 0) hw (show (0 : Int) ≤ 1 ∧ 1 ≤ 2 by omega)
    have g_17 := hw.f23
    exact hw2
  · split
    · have g_2 := hw.f23
      have hw4 : wfm (mfl σ 0 0) := wfm_f (k := 0) hw (show (0 : Int) ≤ 0 ∧ 0 ≤ 2 by omega)
      have g_17 := hw.f23
      have g_33 := hw.f48
      exact hw4
    · split
      · have g_2 := hw.f23
        have hw4 : wfm (mfl σ 0 0) := wfm_f (k := 0) hw (show (0 : Int) ≤ 0 ∧ 0 ≤ 2 by omega)
        have g_17 := hw.f23
        exact hw4
      · split
        · have g_2 := hw.f23
          have hw4 : wfm (mfl σ 0 0) := wfm_f (k := 0) hw (show (0 : Int) ≤ 0 ∧ 0 ≤ 2 by omega)
          have g_17 := hw.f23
          have g_45 := hw.f48
          have e_60 := hw.a49 a
          exact hw4
        · have g_2 := hw.f23
          have hw4 : wfm (mfl σ 0 0) := wfm_f (k := 0) hw (show (0 : Int) ≤ 0 ∧ 0 ≤ 2 by omega)
          have g_17 := hw.f23
          have g_45 := hw.f48
          exact hw4
def c_mreport (σ : mS) (a : Int) : Int × mS := (if (σ.1 23) = 0 then (0, (mfl σ 0 1)) else (if a = (-1) then ((σ.1 50), (mfl σ 0 0)) else (if a < 0 then ((-1), (mfl σ 0 0)) else (if a < (σ.1 50) then ((mat (σ.2 51) a), (mfl σ 0 0)) else ((-1), (mfl σ 0 0))))))
theorem t_mreport {l : Launch} {G : jG} {d : Nat} {σ : mS} {a : Int} (hw : wfm σ) (hd : 0 ≤ d) (ha : rg a) : CJ jMod mown l G (Yx mX7_report) d 0 0 0 [some (.ref 116), some (vi a)] [] σ (det (some (vi (c_mreport σ a).1)) (c_mreport σ a).2) := by
  refine C_aload_n dX7_report_0 rfl ?_
  refine C_aload_n dX7_report_1 rfl ?_
  refine C_get (v := vi (σ.1 23)) dX7_report_2 f_X7_253 (fun h hc => ⟨_, hc.1, rfl⟩) ?_
  have g_2 := hw.f23
  refine C_if_eq (tgt := 12) dX7_report_5 (by decide) (by omega) (fun c_5 => ?_) (fun c_5 => ?_)
  · refine C_iconst dX7_report_12 ?_
    refine C_put (σ' := (mfl σ 0 1)) dX7_report_13 f_X7_102 jfit_i mown_0 (fun h hc => hc.pf0) ?_
    have hw2 : wfm (mfl σ 0 1) := wfm_f (k := 0) hw (show (0 : Int) ≤ 1 ∧ 1 ≤ 2 by omega)
    refine C_aload_n dX7_report_16 rfl ?_
    refine C_get (v := vi (σ.1 23)) dX7_report_17 f_X7_253 (fun h hc => ⟨_, hc.1, congrArg (fun z => some (vi z)) (show ((mfl σ 0 1).1 23) = (σ.1 23) by simp [mfl, mar, upF])⟩) ?_
    have g_17 := hw.f23
    refine C_if_ne (tgt := 27) dX7_report_20 (by decide) (by omega) (fun c_20 => absurd c_20 (by omega)) (fun c_20 => ?_)
    refine C_iconst dX7_report_23 ?_
    refine C_goto (tgt := 61) dX7_report_24 (by decide) ?_
    refine C_iret dX7_report_61 rfl ?_
    unfold det; rw [c_mreport, if_pos (by omega)]; exact ⟨rfl, rfl⟩
  · refine C_iconst dX7_report_8 ?_
    refine C_goto (tgt := 13) dX7_report_9 (by decide) ?_
    refine C_put (σ' := (mfl σ 0 0)) dX7_report_13 f_X7_102 jfit_i mown_0 (fun h hc => hc.pf0) ?_
    have hw4 : wfm (mfl σ 0 0) := wfm_f (k := 0) hw (show (0 : Int) ≤ 0 ∧ 0 ≤ 2 by omega)
    refine C_aload_n dX7_report_16 rfl ?_
    refine C_get (v := vi (σ.1 23)) dX7_report_17 f_X7_253 (fun h hc => ⟨_, hc.1, congrArg (fun z => some (vi z)) (show ((mfl σ 0 0).1 23) = (σ.1 23) by simp [mfl, mar, upF])⟩) ?_
    have g_17 := hw.f23
    refine C_if_ne (tgt := 27) dX7_report_20 (by decide) (by omega) (fun c_20 => ?_) (fun c_20 => absurd c_20 (by omega))
    refine C_iload_n dX7_report_27 rfl ?_
    refine C_iconst dX7_report_28 ?_
    refine C_icmp_ne (tgt := 39) dX7_report_29 (by decide) (by omega) (by omega) (fun c_29 => ?_) (fun c_29 => ?_)
    · refine C_iload_n dX7_report_39 rfl ?_
      refine C_if_lt (tgt := 51) dX7_report_40 (by decide) (by omega) (fun c_40 => ?_) (fun c_40 => ?_)
      · refine C_iconst dX7_report_51 ?_
        refine C_goto (tgt := 61) dX7_report_52 (by decide) ?_
        refine C_iret dX7_report_61 rfl ?_
        unfold det; rw [c_mreport, if_neg (by omega), if_neg (by omega), if_pos (by omega)]; exact ⟨rfl, rfl⟩
      · refine C_iload_n dX7_report_43 rfl ?_
        refine C_aload_n dX7_report_44 rfl ?_
        refine C_get (v := vi (σ.1 50)) dX7_report_45 f_X7_272 (fun h hc => ⟨_, hc.1, congrArg (fun z => some (vi z)) (show ((mfl σ 0 0).1 50) = (σ.1 50) by simp [mfl, mar, upF])⟩) ?_
        have g_45 := hw.f50
        refine C_icmp_lt (tgt := 55) dX7_report_48 (by decide) (by omega) (by omega) (fun c_48 => ?_) (fun c_48 => ?_)
        · refine C_aload_n dX7_report_55 rfl ?_
          refine C_get (v := .ref 145) dX7_report_56 f_X7_99 (fun h hc => ⟨_, hc.1, rfl⟩) ?_
          refine C_iload_n dX7_report_59 rfl ?_
          refine C_iald (v := vi (mat (σ.2 51) a)) dX7_report_60 (by omega) (by omega) (fun h hc => (hc.rd51 hw4 (by omega) (by omega)).imp (fun vs q => ⟨q.1, q.2.trans (congrArg (fun z => some (vi (mat z a))) (show (mfl σ 0 0).2 51 = σ.2 51 by simp [mfl, mar, upF]))⟩)) ?_
          have e_60 := hw.a51 a
          refine C_iret dX7_report_61 rfl ?_
          unfold det; rw [c_mreport, if_neg (by omega), if_neg (by omega), if_neg (by omega), if_pos (by omega)]; exact ⟨rfl, rfl⟩
        · refine C_iconst dX7_report_51 ?_
          refine C_goto (tgt := 61) dX7_report_52 (by decide) ?_
          refine C_iret dX7_report_61 rfl ?_
          unfold det; rw [c_mreport, if_neg (by omega), if_neg (by omega), if_neg (by omega), if_neg (by omega)]; exact ⟨rfl, rfl⟩
    · refine C_aload_n dX7_report_32 rfl ?_
      refine C_get (v := vi (σ.1 50)) dX7_report_33 f_X7_272 (fun h hc => ⟨_, hc.1, congrArg (fun z => some (vi z)) (show ((mfl σ 0 0).1 50) = (σ.1 50) by simp [mfl, mar, upF])⟩) ?_
      have g_33 := hw.f50
      refine C_goto (tgt := 61) dX7_report_36 (by decide) ?_
      refine C_iret dX7_report_61 rfl ?_
      unfold det; rw [c_mreport, if_neg (by omega), if_pos (by omega)]; exact ⟨rfl, rfl⟩
theorem w_mreport {σ : mS} {a : Int} (hw : wfm σ) (ha : rg a) : wfm (c_mreport σ a).2 := by
  unfold c_mreport
  split
  · have g_2 := hw.f23
    have hw2 : wfm (mfl σ 0 1) := wfm_f (k := 0) hw (show (0 : Int) ≤ 1 ∧ 1 ≤ 2 by omega)
    have g_17 := hw.f23
    exact hw2
  · split
    · have g_2 := hw.f23
      have hw4 : wfm (mfl σ 0 0) := wfm_f (k := 0) hw (show (0 : Int) ≤ 0 ∧ 0 ≤ 2 by omega)
      have g_17 := hw.f23
      have g_33 := hw.f50
      exact hw4
    · split
      · have g_2 := hw.f23
        have hw4 : wfm (mfl σ 0 0) := wfm_f (k := 0) hw (show (0 : Int) ≤ 0 ∧ 0 ≤ 2 by omega)
        have g_17 := hw.f23
        exact hw4
      · split
        · have g_2 := hw.f23
          have hw4 : wfm (mfl σ 0 0) := wfm_f (k := 0) hw (show (0 : Int) ≤ 0 ∧ 0 ≤ 2 by omega)
          have g_17 := hw.f23
          have g_45 := hw.f50
          have e_60 := hw.a51 a
          exact hw4
        · have g_2 := hw.f23
          have hw4 : wfm (mfl σ 0 0) := wfm_f (k := 0) hw (show (0 : Int) ≤ 0 ∧ 0 ≤ 2 by omega)
          have g_17 := hw.f23
          have g_45 := hw.f50
          exact hw4
