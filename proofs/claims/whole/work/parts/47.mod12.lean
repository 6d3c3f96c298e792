theorem wfi {c : Prop} [Decidable c] {a b : Int × mS} (h1 : wfm a.2) (h2 : wfm b.2) : wfm (if c then a else b).2 := by split <;> assumption
def c_msegment (σ : mS) (s : Int) (e : Int) (c : Int) (i : Int) : Int × mS := (if (σ.1 23) = 0 then (0, (mfl σ 0 1)) else (if s < 0 then ((-1), (mfl σ 0 0)) else (if (σ.1 24) ≤ s then ((-1), (mfl σ 0 0)) else (if (-2) ≤ e then (if 0 ≤ e then (if ((mat (σ.2 26) (s + 1)) - (mat (σ.2 26) s)) ≤ e then ((-1), (mfl σ 0 0)) else (if (-1) ≤ c then (if c < 0 then (if 0 ≤ c then ((-1), (mfl σ 0 0)) else (((mat (σ.2 28) (((mat (σ.2 26) s) + e) + 1)) - (mat (σ.2 28) ((mat (σ.2 26) s) + e))), (mfl σ 0 0))) else (if ((mat (σ.2 28) (((mat (σ.2 26) s) + e) + 1)) - (mat (σ.2 28) ((mat (σ.2 26) s) + e))) ≤ c then (if 0 ≤ c then ((-1), (mfl σ 0 0)) else (((mat (σ.2 28) (((mat (σ.2 26) s) + e) + 1)) - (mat (σ.2 28) ((mat (σ.2 26) s) + e))), (mfl σ 0 0))) else (if (-1) ≤ i then (if 0 ≤ i then (if (c_msizeOf (mfl σ 0 0) ((mat (σ.2 28) ((mat (σ.2 26) s) + e)) + c)) ≤ i then ((-1), (mfl σ 0 0)) else ((mat (σ.2 31) ((mat (σ.2 30) ((mat (σ.2 28) ((mat (σ.2 26) s) + e)) + c)) + i)), (mfl σ 0 0))) else ((c_msizeOf (mfl σ 0 0) ((mat (σ.2 28) ((mat (σ.2 26) s) + e)) + c)), (mfl σ 0 0))) else (if 0 ≤ c then ((-1), (mfl σ 0 0)) else (((mat (σ.2 28) (((mat (σ.2 26) s) + e) + 1)) - (mat (σ.2 28) ((mat (σ.2 26) s) + e))), (mfl σ 0 0)))))) else ((-1), (mfl σ 0 0)))) else (if e = (-2) then ((mat (σ.2 25) s), (mfl σ 0 0)) else (((mat (σ.2 26) (s + 1)) - (mat (σ.2 26) s)), (mfl σ 0 0)))) else ((-1), (mfl σ 0 0))))))
theorem t_msegment {l : Launch} {G : jG} {d : Nat} {σ : mS} {s : Int} {e : Int} {c : Int} {i : Int} (hw : wfm σ) (hd : 1 ≤ d) (hs : rg s) (he : rg e) (hc : rg c) (hi : rg i) : CJ jMod mown l G (Yx mX7_segment) d 0 0 0 [some (.ref 116), some (vi s), some (vi e), some (vi c), some (vi i), none, none, none, none] [] σ (det (some (vi (c_msegment σ s e c i).1)) (c_msegment σ s e c i).2) := by
  refine C_aload_n dX7_segment_0 rfl ?_
  refine C_aload_n dX7_segment_1 rfl ?_
  refine C_get (v := vi (σ.1 23)) dX7_segment_2 f_X7_253 (fun h hc => ⟨_, hc.1, rfl⟩) ?_
  have g_2 := hw.f23
  refine C_if_eq (tgt := 12) dX7_segment_5 (by decide) (by omega) (fun c_5 => ?_) (fun c_5 => ?_)
  · refine C_iconst dX7_segment_12 ?_
    refine C_put (σ' := (mfl σ 0 1)) dX7_segment_13 f_X7_102 jfit_i mown_0 (fun h hc => hc.pf0) ?_
    have hw2 : wfm (mfl σ 0 1) := wfm_f (k := 0) hw (show (0 : Int) ≤ 1 ∧ 1 ≤ 2 by omega)
    refine C_aload_n dX7_segment_16 rfl ?_
    refine C_get (v := vi (σ.1 23)) dX7_segment_17 f_X7_253 (fun h hc => ⟨_, hc.1, congrArg (fun z => some (vi z)) (show ((mfl σ 0 1).1 23) = (σ.1 23) by simp [mfl, mar, upF])⟩) ?_
    have g_17 := hw.f23
    refine C_if_eq (tgt := 41) dX7_segment_20 (by decide) (by omega) (fun c_20 => ?_) (fun c_20 => absurd c_20 (by omega))
    refine C_aload_n dX7_segment_41 rfl ?_
    refine C_get (v := vi (σ.1 23)) dX7_segment_42 f_X7_253 (fun h hc => ⟨_, hc.1, congrArg (fun z => some (vi z)) (show ((mfl σ 0 1).1 23) = (σ.1 23) by simp [mfl, mar, upF])⟩) ?_
    have g_42 := hw.f23
    refine C_if_eq (tgt := 52) dX7_segment_45 (by decide) (by omega) (fun c_45 => ?_) (fun c_45 => absurd c_45 (by omega))
    refine C_iconst dX7_segment_52 ?_
    refine C_iret dX7_segment_53 rfl ?_
    unfold det; rw [c_msegment, if_pos (by omega)]; exact ⟨rfl, rfl⟩
  · refine C_iconst dX7_segment_8 ?_
    refine C_goto (tgt := 13) dX7_segment_9 (by decide) ?_
    refine C_put (σ' := (mfl σ 0 0)) dX7_segment_13 f_X7_102 jfit_i mown_0 (fun h hc => hc.pf0) ?_
    have hw5 : wfm (mfl σ 0 0) := wfm_f (k := 0) hw (show (0 : Int) ≤ 0 ∧ 0 ≤ 2 by omega)
    refine C_aload_n dX7_segment_16 rfl ?_
    refine C_get (v := vi (σ.1 23)) dX7_segment_17 f_X7_253 (fun h hc => ⟨_, hc.1, congrArg (fun z => some (vi z)) (show ((mfl σ 0 0).1 23) = (σ.1 23) by simp [mfl, mar, upF])⟩) ?_
    have g_17 := hw.f23
    refine C_if_eq (tgt := 41) dX7_segment_20 (by decide) (by omega) (fun c_20 => absurd c_20 (by omega)) (fun c_20 => ?_)
    refine C_iload_n dX7_segment_23 rfl ?_
    refine C_if_lt (tgt := 41) dX7_segment_24 (by decide) (by omega) (fun c_24 => ?_) (fun c_24 => ?_)
    · refine C_aload_n dX7_segment_41 rfl ?_
      refine C_get (v := vi (σ.1 23)) dX7_segment_42 f_X7_253 (fun h hc => ⟨_, hc.1, congrArg (fun z => some (vi z)) (show ((mfl σ 0 0).1 23) = (σ.1 23) by simp [mfl, mar, upF])⟩) ?_
      have g_42 := hw.f23
      refine C_if_eq (tgt := 52) dX7_segment_45 (by decide) (by omega) (fun c_45 => absurd c_45 (by omega)) (fun c_45 => ?_)
      refine C_iconst dX7_segment_48 ?_
      refine C_goto (tgt := 53) dX7_segment_49 (by decide) ?_
      refine C_iret dX7_segment_53 rfl ?_
      unfold det; rw [c_msegment, if_neg (by omega), if_pos (by omega)]; exact ⟨rfl, rfl⟩
    · refine C_iload_n dX7_segment_27 rfl ?_
      refine C_aload_n dX7_segment_28 rfl ?_
      refine C_get (v := vi (σ.1 24)) dX7_segment_29 f_X7_187 (fun h hc => ⟨_, hc.1, congrArg (fun z => some (vi z)) (show ((mfl σ 0 0).1 24) = (σ.1 24) by simp [mfl, mar, upF])⟩) ?_
      have g_29 := hw.f24
      refine C_icmp_ge (tgt := 41) dX7_segment_32 (by decide) (by omega) (by omega) (fun c_32 => ?_) (fun c_32 => ?_)
      · refine C_aload_n dX7_segment_41 rfl ?_
        refine C_get (v := vi (σ.1 23)) dX7_segment_42 f_X7_253 (fun h hc => ⟨_, hc.1, congrArg (fun z => some (vi z)) (show ((mfl σ 0 0).1 23) = (σ.1 23) by simp [mfl, mar, upF])⟩) ?_
        have g_42 := hw.f23
        refine C_if_eq (tgt := 52) dX7_segment_45 (by decide) (by omega) (fun c_45 => absurd c_45 (by omega)) (fun c_45 => ?_)
        refine C_iconst dX7_segment_48 ?_
        refine C_goto (tgt := 53) dX7_segment_49 (by decide) ?_
        refine C_iret dX7_segment_53 rfl ?_
        unfold det; rw [c_msegment, if_neg (by omega), if_neg (by omega), if_pos (by omega)]; exact ⟨rfl, rfl⟩
      · refine C_iload_n dX7_segment_35 rfl ?_
        refine C_bipush dX7_segment_36 (by decide) ?_
        refine C_icmp_ge (tgt := 54) dX7_segment_38 (by decide) (by omega) (by omega) (fun c_38 => ?_) (fun c_38 => ?_)
        · refine C_aload_n dX7_segment_54 rfl ?_
          refine C_get (v := .ref 130) dX7_segment_55 f_X7_54 (fun h hc => ⟨_, hc.1, rfl⟩) ?_
          refine C_iload_n dX7_segment_58 rfl ?_
          refine C_iconst dX7_segment_59 ?_
          refine C_iadd dX7_segment_60 ?_
          refine C_iald (v := vi (mat (σ.2 26) (s + 1))) dX7_segment_61 (by omega) (by omega) (fun h hc => (hc.rd26 hw5 (by omega) (by omega)).imp (fun vs q => ⟨q.1, q.2.trans (congrArg (fun z => some (vi (mat z (s + 1)))) (show (mfl σ 0 0).2 26 = σ.2 26 by simp [mfl, mar, upF]))⟩)) ?_
          have e_61 := hw.a26 (s + 1)
          refine C_aload_n dX7_segment_62 rfl ?_
          refine C_get (v := .ref 130) dX7_segment_63 f_X7_54 (fun h hc => ⟨_, hc.1, rfl⟩) ?_
          refine C_iload_n dX7_segment_66 rfl ?_
          refine C_iald (v := vi (mat (σ.2 26) s)) dX7_segment_67 (by omega) (by omega) (fun h hc => (hc.rd26 hw5 (by omega) (by omega)).imp (fun vs q => ⟨q.1, q.2.trans (congrArg (fun z => some (vi (mat z s))) (show (mfl σ 0 0).2 26 = σ.2 26 by simp [mfl, mar, upF]))⟩)) ?_
          have e_67 := hw.a26 s
          refine C_isub dX7_segment_68 ?_
          refine C_istore dX7_segment_69 (by decide) rfl ?_
          simp only [List.set_cons_zero, List.set_cons_succ, jfin0, jfin1, jfin2, jfin3]
          refine C_iload_n dX7_segment_71 rfl ?_
          refine C_if_ge (tgt := 93) dX7_segment_72 (by decide) (by omega) (fun c_72 => ?_) (fun c_72 => ?_)
          · refine C_iload_n dX7_segment_93 rfl ?_
            refine C_iload dX7_segment_94 rfl ?_
            refine C_icmp_ge (tgt := 104) dX7_segment_96 (by decide) (by omega) (by omega) (fun c_96 => ?_) (fun c_96 => ?_)
            · refine C_iconst dX7_segment_104 ?_
              refine C_iret dX7_segment_105 rfl ?_
              unfold det; rw [c_msegment, if_neg (by omega), if_neg (by omega), if_neg (by omega), if_pos (by omega), if_pos (by omega), if_pos (by omega)]; exact ⟨rfl, rfl⟩
            · refine C_iload_n dX7_segment_99 rfl ?_
              refine C_iconst dX7_segment_100 ?_
              refine C_icmp_ge (tgt := 106) dX7_segment_101 (by decide) (by omega) (by omega) (fun c_101 => ?_) (fun c_101 => ?_)
              · refine C_aload_n dX7_segment_106 rfl ?_
                refine C_get (v := .ref 130) dX7_segment_107 f_X7_54 (fun h hc => ⟨_, hc.1, rfl⟩) ?_
                refine C_iload_n dX7_segment_110 rfl ?_
                refine C_iald (v := vi (mat (σ.2 26) s)) dX7_segment_111 (by omega) (by omega) (fun h hc => (hc.rd26 hw5 (by omega) (by omega)).imp (fun vs q => ⟨q.1, q.2.trans (congrArg (fun z => some (vi (mat z s))) (show (mfl σ 0 0).2 26 = σ.2 26 by simp [mfl, mar, upF]))⟩)) ?_
                have e_111 := hw.a26 s
                refine C_iload_n dX7_segment_112 rfl ?_
                refine C_iadd dX7_segment_113 ?_
                refine C_istore dX7_segment_114 (by decide) rfl ?_
                simp only [List.set_cons_zero, List.set_cons_succ, jfin0, jfin1, jfin2, jfin3]
                refine C_aload_n dX7_segment_116 rfl ?_
                refine C_get (v := .ref 131) dX7_segment_117 f_X7_57 (fun h hc => ⟨_, hc.1, rfl⟩) ?_
                refine C_iload dX7_segment_120 rfl ?_
                refine C_iconst dX7_segment_122 ?_
                refine C_iadd dX7_segment_123 ?_
                refine C_iald (v := vi (mat (σ.2 28) (((mat (σ.2 26) s) + e) + 1))) dX7_segment_124 (by omega) (by omega) (fun h hc => (hc.rd28 hw5 (by omega) (by omega)).imp (fun vs q => ⟨q.1, q.2.trans (congrArg (fun z => some (vi (mat z (((mat (σ.2 26) s) + e) + 1)))) (show (mfl σ 0 0).2 28 = σ.2 28 by simp [mfl, mar, upF]))⟩)) ?_
                have e_124 := hw.a28 (((mat (σ.2 26) s) + e) + 1)
                refine C_aload_n dX7_segment_125 rfl ?_
                refine C_get (v := .ref 131) dX7_segment_126 f_X7_57 (fun h hc => ⟨_, hc.1, rfl⟩) ?_
                refine C_iload dX7_segment_129 rfl ?_
                refine C_iald (v := vi (mat (σ.2 28) ((mat (σ.2 26) s) + e))) dX7_segment_131 (by omega) (by omega) (fun h hc => (hc.rd28 hw5 (by omega) (by omega)).imp (fun vs q => ⟨q.1, q.2.trans (congrArg (fun z => some (vi (mat z ((mat (σ.2 26) s) + e)))) (show (mfl σ 0 0).2 28 = σ.2 28 by simp [mfl, mar, upF]))⟩)) ?_
                have e_131 := hw.a28 ((mat (σ.2 26) s) + e)
                refine C_isub dX7_segment_132 ?_
                refine C_istore dX7_segment_133 (by decide) rfl ?_
                simp only [List.set_cons_zero, List.set_cons_succ, jfin0, jfin1, jfin2, jfin3]
                refine C_iload_n dX7_segment_135 rfl ?_
                refine C_if_lt (tgt := 151) dX7_segment_136 (by decide) (by omega) (fun c_136 => ?_) (fun c_136 => ?_)
                · refine C_iload_n dX7_segment_151 rfl ?_
                  refine C_if_ge (tgt := 160) dX7_segment_152 (by decide) (by omega) (fun c_152 => ?_) (fun c_152 => ?_)
                  · refine C_iconst dX7_segment_160 ?_
                    refine C_iret dX7_segment_161 rfl ?_
                    unfold det; rw [c_msegment, if_neg (by omega), if_neg (by omega), if_neg (by omega), if_pos (by omega), if_pos (by omega), if_neg (by omega), if_pos (by omega), if_pos (by omega), if_pos (by omega)]; exact ⟨rfl, rfl⟩
                  · refine C_iload dX7_segment_155 rfl ?_
                    refine C_goto (tgt := 161) dX7_segment_157 (by decide) ?_
                    refine C_iret dX7_segment_161 rfl ?_
                    unfold det; rw [c_msegment, if_neg (by omega), if_neg (by omega), if_neg (by omega), if_pos (by omega), if_pos (by omega), if_neg (by omega), if_pos (by omega), if_pos (by omega), if_neg (by omega)]; exact ⟨rfl, rfl⟩
                · refine C_iload_n dX7_segment_139 rfl ?_
                  refine C_iload dX7_segment_140 rfl ?_
                  refine C_icmp_ge (tgt := 151) dX7_segment_142 (by decide) (by omega) (by omega) (fun c_142 => ?_) (fun c_142 => ?_)
                  · refine C_iload_n dX7_segment_151 rfl ?_
                    refine C_if_ge (tgt := 160) dX7_segment_152 (by decide) (by omega) (fun c_152 => ?_) (fun c_152 => ?_)
                    · refine C_iconst dX7_segment_160 ?_
                      refine C_iret dX7_segment_161 rfl ?_
                      unfold det; rw [c_msegment, if_neg (by omega), if_neg (by omega), if_neg (by omega), if_pos (by omega), if_pos (by omega), if_neg (by omega), if_pos (by omega), if_neg (by omega), if_pos (by omega), if_pos (by omega)]; exact ⟨rfl, rfl⟩
                    · refine C_iload dX7_segment_155 rfl ?_
                      refine C_goto (tgt := 161) dX7_segment_157 (by decide) ?_
                      refine C_iret dX7_segment_161 rfl ?_
                      unfold det; rw [c_msegment, if_neg (by omega), if_neg (by omega), if_neg (by omega), if_pos (by omega), if_pos (by omega), if_neg (by omega), if_pos (by omega), if_neg (by omega), if_pos (by omega), if_neg (by omega)]; exact ⟨rfl, rfl⟩
                  · refine C_iload dX7_segment_145 rfl ?_
                    refine C_iconst dX7_segment_147 ?_
                    refine C_icmp_ge (tgt := 162) dX7_segment_148 (by decide) (by omega) (by omega) (fun c_148 => ?_) (fun c_148 => ?_)
                    · refine C_aload_n dX7_segment_162 rfl ?_
                      refine C_aload_n dX7_segment_163 rfl ?_
                      refine C_get (v := .ref 131) dX7_segment_164 f_X7_57 (fun h hc => ⟨_, hc.1, rfl⟩) ?_
                      refine C_iload dX7_segment_167 rfl ?_
                      refine C_iald (v := vi (mat (σ.2 28) ((mat (σ.2 26) s) + e))) dX7_segment_169 (by omega) (by omega) (fun h hc => (hc.rd28 hw5 (by omega) (by omega)).imp (fun vs q => ⟨q.1, q.2.trans (congrArg (fun z => some (vi (mat z ((mat (σ.2 26) s) + e)))) (show (mfl σ 0 0).2 28 = σ.2 28 by simp [mfl, mar, upF]))⟩)) ?_
                      have e_169 := hw.a28 ((mat (σ.2 26) s) + e)
                      refine C_iload_n dX7_segment_170 rfl ?_
                      refine C_iadd dX7_segment_171 ?_
                      refine D_callV (As := [vi _]) (d' := 0) (t_msizeOf hw5 (Nat.le_refl _) (by omega)) dX7_segment_172 v_X7_202 (fun h hc => ⟨_, hc.1⟩) rfl (Nat.le_of_ble_eq_true rfl) (by omega) (Nat.le_of_ble_eq_true rfl) ?_
                      simp only [Option.toList, List.nil_append, List.cons_append]
                      have r_172 := And.intro (r_msizeOf (c := ((mat (σ.2 28) ((mat (σ.2 26) s) + e)) + c)) hw5 (by omega)) (And.intro (ms_def (mfl σ 0 0) ((mat (σ.2 28) ((mat (σ.2 26) s) + e)) + c)) (And.intro (hw5.a30 (((mat (σ.2 28) ((mat (σ.2 26) s) + e)) + c) + 1)) (hw5.a30 ((mat (σ.2 28) ((mat (σ.2 26) s) + e)) + c))))
                      refine C_istore dX7_segment_175 (by decide) rfl ?_
                      simp only [List.set_cons_zero, List.set_cons_succ, jfin0, jfin1, jfin2, jfin3]
                      refine C_iload dX7_segment_177 rfl ?_
                      refine C_if_ge (tgt := 187) dX7_segment_179 (by decide) (by omega) (fun c_179 => ?_) (fun c_179 => ?_)
                      · refine C_iload dX7_segment_187 rfl ?_
                        refine C_iload dX7_segment_189 rfl ?_
                        refine C_icmp_ge (tgt := 219) dX7_segment_191 (by decide) (by omega) (by omega) (fun c_191 => ?_) (fun c_191 => ?_)
                        · refine C_iconst dX7_segment_219 ?_
                          refine C_iret dX7_segment_220 rfl ?_
                          unfold det; rw [c_msegment, if_neg (by omega), if_neg (by omega), if_neg (by omega), if_pos (by omega), if_pos (by omega), if_neg (by omega), if_pos (by omega), if_neg (by omega), if_neg (by omega), if_pos (by omega), if_pos (by omega), if_pos (by omega)]; exact ⟨rfl, rfl⟩
                        · refine C_aload_n dX7_segment_194 rfl ?_
                          refine C_get (v := .ref 133) dX7_segment_195 f_X7_63 (fun h hc => ⟨_, hc.1, rfl⟩) ?_
                          refine C_aload_n dX7_segment_198 rfl ?_
                          refine C_get (v := .ref 132) dX7_segment_199 f_X7_60 (fun h hc => ⟨_, hc.1, rfl⟩) ?_
                          refine C_aload_n dX7_segment_202 rfl ?_
                          refine C_get (v := .ref 131) dX7_segment_203 f_X7_57 (fun h hc => ⟨_, hc.1, rfl⟩) ?_
                          refine C_iload dX7_segment_206 rfl ?_
                          refine C_iald (v := vi (mat (σ.2 28) ((mat (σ.2 26) s) + e))) dX7_segment_208 (by omega) (by omega) (fun h hc => (hc.rd28 hw5 (by omega) (by omega)).imp (fun vs q => ⟨q.1, q.2.trans (congrArg (fun z => some (vi (mat z ((mat (σ.2 26) s) + e)))) (show (mfl σ 0 0).2 28 = σ.2 28 by simp [mfl, mar, upF]))⟩)) ?_
                          have e_208 := hw.a28 ((mat (σ.2 26) s) + e)
                          refine C_iload_n dX7_segment_209 rfl ?_
                          refine C_iadd dX7_segment_210 ?_
                          refine C_iald (v := vi (mat (σ.2 30) ((mat (σ.2 28) ((mat (σ.2 26) s) + e)) + c))) dX7_segment_211 (by omega) (by omega) (fun h hc => (hc.rd30 hw5 (by omega) (by omega)).imp (fun vs q => ⟨q.1, q.2.trans (congrArg (fun z => some (vi (mat z ((mat (σ.2 28) ((mat (σ.2 26) s) + e)) + c)))) (show (mfl σ 0 0).2 30 = σ.2 30 by simp [mfl, mar, upF]))⟩)) ?_
                          have e_211 := hw.a30 ((mat (σ.2 28) ((mat (σ.2 26) s) + e)) + c)
                          refine C_iload dX7_segment_212 rfl ?_
                          refine C_iadd dX7_segment_214 ?_
                          have e1 : mat ((mfl σ 0 0).2 30) (((mat (σ.2 28) ((mat (σ.2 26) s) + e)) + c) + 1) = mat (σ.2 30) (((mat (σ.2 28) ((mat (σ.2 26) s) + e)) + c) + 1) := rfl
                          have e2 : mat ((mfl σ 0 0).2 30) ((mat (σ.2 28) ((mat (σ.2 26) s) + e)) + c) = mat (σ.2 30) ((mat (σ.2 28) ((mat (σ.2 26) s) + e)) + c) := rfl
                          refine C_iald (v := vi (mat (σ.2 31) ((mat (σ.2 30) ((mat (σ.2 28) ((mat (σ.2 26) s) + e)) + c)) + i))) dX7_segment_215 (by omega) (by omega) (fun h hc => (hc.rd31 hw5 (by omega) (by omega)).imp (fun vs q => ⟨q.1, q.2.trans (congrArg (fun z => some (vi (mat z ((mat (σ.2 30) ((mat (σ.2 28) ((mat (σ.2 26) s) + e)) + c)) + i)))) (show (mfl σ 0 0).2 31 = σ.2 31 by simp [mfl, mar, upF]))⟩)) ?_
                          have e_215 := hw.a31 ((mat (σ.2 30) ((mat (σ.2 28) ((mat (σ.2 26) s) + e)) + c)) + i)
                          refine C_goto (tgt := 220) dX7_segment_216 (by decide) ?_
                          refine C_iret dX7_segment_220 rfl ?_
                          unfold det; rw [c_msegment, if_neg (by omega), if_neg (by omega), if_neg (by omega), if_pos (by omega), if_pos (by omega), if_neg (by omega), if_pos (by omega), if_neg (by omega), if_neg (by omega), if_pos (by omega), if_pos (by omega), if_neg (by omega)]; exact ⟨rfl, rfl⟩
                      · refine C_iload dX7_segment_182 rfl ?_
                        refine C_goto (tgt := 220) dX7_segment_184 (by decide) ?_
                        refine C_iret dX7_segment_220 rfl ?_
                        unfold det; rw [c_msegment, if_neg (by omega), if_neg (by omega), if_neg (by omega), if_pos (by omega), if_pos (by omega), if_neg (by omega), if_pos (by omega), if_neg (by omega), if_neg (by omega), if_pos (by omega), if_neg (by omega)]; exact ⟨rfl, rfl⟩
                    · refine C_iload_n dX7_segment_151 rfl ?_
                      refine C_if_ge (tgt := 160) dX7_segment_152 (by decide) (by omega) (fun c_152 => ?_) (fun c_152 => ?_)
                      · refine C_iconst dX7_segment_160 ?_
                        refine C_iret dX7_segment_161 rfl ?_
                        unfold det; rw [c_msegment, if_neg (by omega), if_neg (by omega), if_neg (by omega), if_pos (by omega), if_pos (by omega), if_neg (by omega), if_pos (by omega), if_neg (by omega), if_neg (by omega), if_neg (by omega), if_pos (by omega)]; exact ⟨rfl, rfl⟩
                      · refine C_iload dX7_segment_155 rfl ?_
                        refine C_goto (tgt := 161) dX7_segment_157 (by decide) ?_
                        refine C_iret dX7_segment_161 rfl ?_
                        unfold det; rw [c_msegment, if_neg (by omega), if_neg (by omega), if_neg (by omega), if_pos (by omega), if_pos (by omega), if_neg (by omega), if_pos (by omega), if_neg (by omega), if_neg (by omega), if_neg (by omega), if_neg (by omega)]; exact ⟨rfl, rfl⟩
              · refine C_iconst dX7_segment_104 ?_
                refine C_iret dX7_segment_105 rfl ?_
                unfold det; rw [c_msegment, if_neg (by omega), if_neg (by omega), if_neg (by omega), if_pos (by omega), if_pos (by omega), if_neg (by omega), if_neg (by omega)]; exact ⟨rfl, rfl⟩
          · refine C_iload_n dX7_segment_75 rfl ?_
            refine C_bipush dX7_segment_76 (by decide) ?_
            refine C_icmp_ne (tgt := 90) dX7_segment_78 (by decide) (by omega) (by omega) (fun c_78 => ?_) (fun c_78 => ?_)
            · refine C_iload dX7_segment_90 rfl ?_
              refine C_iret dX7_segment_92 rfl ?_
              unfold det; rw [c_msegment, if_neg (by omega), if_neg (by omega), if_neg (by omega), if_pos (by omega), if_neg (by omega), if_neg (by omega)]; exact ⟨rfl, rfl⟩
            · refine C_aload_n dX7_segment_81 rfl ?_
              refine C_get (v := .ref 129) dX7_segment_82 f_X7_51 (fun h hc => ⟨_, hc.1, rfl⟩) ?_
              refine C_iload_n dX7_segment_85 rfl ?_
              refine C_iald (v := vi (mat (σ.2 25) s)) dX7_segment_86 (by omega) (by omega) (fun h hc => (hc.rd25 hw5 (by omega) (by omega)).imp (fun vs q => ⟨q.1, q.2.trans (congrArg (fun z => some (vi (mat z s))) (show (mfl σ 0 0).2 25 = σ.2 25 by simp [mfl, mar, upF]))⟩)) ?_
              have e_86 := hw.a25 s
              refine C_goto (tgt := 92) dX7_segment_87 (by decide) ?_
              refine C_iret dX7_segment_92 rfl ?_
              unfold det; rw [c_msegment, if_neg (by omega), if_neg (by omega), if_neg (by omega), if_pos (by omega), if_neg (by omega), if_pos (by omega)]; exact ⟨rfl, rfl⟩
        · refine C_aload_n dX7_segment_41 rfl ?_
          refine C_get (v := vi (σ.1 23)) dX7_segment_42 f_X7_253 (fun h hc => ⟨_, hc.1, congrArg (fun z => some (vi z)) (show ((mfl σ 0 0).1 23) = (σ.1 23) by simp [mfl, mar, upF])⟩) ?_
          have g_42 := hw.f23
          refine C_if_eq (tgt := 52) dX7_segment_45 (by decide) (by omega) (fun c_45 => absurd c_45 (by omega)) (fun c_45 => ?_)
          refine C_iconst dX7_segment_48 ?_
          refine C_goto (tgt := 53) dX7_segment_49 (by decide) ?_
          refine C_iret dX7_segment_53 rfl ?_
          unfold det; rw [c_msegment, if_neg (by omega), if_neg (by omega), if_neg (by omega), if_neg (by omega)]; exact ⟨rfl, rfl⟩
theorem w_msegment {σ : mS} {s : Int} {e : Int} {c : Int} {i : Int} (hw : wfm σ) (hs : rg s) (he : rg e) (hc : rg c) (hi : rg i) : wfm (c_msegment σ s e c i).2 := by
  have k0 : wfm (mfl σ 0 0) := wfm_f (k := 0) hw (show (0 : Int) ≤ 0 ∧ 0 ≤ 2 by omega)
  have k1 : wfm (mfl σ 0 1) := wfm_f (k := 0) hw (show (0 : Int) ≤ 1 ∧ 1 ≤ 2 by omega)
  unfold c_msegment
  repeat' (first | exact k0 | exact k1 | refine wfi ?_ ?_)
