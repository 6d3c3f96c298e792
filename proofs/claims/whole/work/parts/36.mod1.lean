theorem bz_i (b : Bool) : 0 ≤ bz b ∧ bz b ≤ 1 := by cases b <;> decide
def c_mthrown (σ : mS)  : Int := (σ.1 0)
theorem t_mthrown {l : Launch} {G : jG} {d : Nat} {σ : mS}  (hw : wfm σ) (hd : 0 ≤ d)  : CJ jMod mown l G (Yx mX7_thrown) d 0 0 0 [some (.ref 116)] [] σ (det (some (vi (c_mthrown σ ))) σ) := by
  refine C_aload_n dX7_thrown_0 rfl ?_
  refine C_get (v := vi (σ.1 0)) dX7_thrown_1 f_X7_102 (fun h hc => ⟨_, hc.1, rfl⟩) ?_
  have g_1 := hw.f0
  refine C_iret dX7_thrown_4 rfl ?_
  unfold det; rw [c_mthrown]; exact ⟨rfl, rfl⟩
theorem r_mthrown {σ : mS}  (hw : wfm σ)  : 0 ≤ (c_mthrown σ ) ∧ (c_mthrown σ ) < 3 := by
  unfold c_mthrown
  have g_1 := hw.f0
  omega
def c_mwipe (σ : mS)  : mS := (mfl (mfl σ 0 0) 1 0)
theorem t_mwipe {l : Launch} {G : jG} {d : Nat} {σ : mS}  (hw : wfm σ) (hd : 0 ≤ d)  : CJ jMod mown l G (Yx mX7_wipe) d 0 0 0 [some (.ref 116)] [] σ (det none (c_mwipe σ )) := by
  refine C_aload_n dX7_wipe_0 rfl ?_
  refine C_iconst dX7_wipe_1 ?_
  refine C_put (σ' := (mfl σ 0 0)) dX7_wipe_2 f_X7_102 jfit_i mown_0 (fun h hc => hc.pf0) ?_
  have hw1 : wfm (mfl σ 0 0) := wfm_f (k := 0) hw (show (0 : Int) ≤ 0 ∧ 0 ≤ 2 by omega)
  refine C_aload_n dX7_wipe_5 rfl ?_
  refine C_iconst dX7_wipe_6 ?_
  refine C_put (σ' := (mfl (mfl σ 0 0) 1 0)) dX7_wipe_7 f_X7_105 jfit_i mown_0 (fun h hc => hc.pf1) ?_
  have hw2 : wfm (mfl (mfl σ 0 0) 1 0) := wfm_f (k := 1) hw1 (show (0 : Int) ≤ 0 ∧ 0 ≤ 400 by omega)
  refine C_vret dX7_wipe_10 rfl ⟨rfl, ?_⟩
  rw [c_mwipe]
theorem w_mwipe {σ : mS}  (hw : wfm σ)  : wfm (c_mwipe σ ) := by
  unfold c_mwipe
  have hw1 : wfm (mfl σ 0 0) := wfm_f (k := 0) hw (show (0 : Int) ≤ 0 ∧ 0 ≤ 2 by omega)
  have hw2 : wfm (mfl (mfl σ 0 0) 1 0) := wfm_f (k := 1) hw1 (show (0 : Int) ≤ 0 ∧ 0 ≤ 400 by omega)
  exact hw2
def c_mlength (σ : mS)  : Int × mS := ((σ.1 1), (mfl σ 0 0))
theorem t_mlength {l : Launch} {G : jG} {d : Nat} {σ : mS}  (hw : wfm σ) (hd : 0 ≤ d)  : CJ jMod mown l G (Yx mX7_length) d 0 0 0 [some (.ref 116)] [] σ (det (some (vi (c_mlength σ ).1)) (c_mlength σ ).2) := by
  refine C_aload_n dX7_length_0 rfl ?_
  refine C_iconst dX7_length_1 ?_
  refine C_put (σ' := (mfl σ 0 0)) dX7_length_2 f_X7_102 jfit_i mown_0 (fun h hc => hc.pf0) ?_
  have hw1 : wfm (mfl σ 0 0) := wfm_f (k := 0) hw (show (0 : Int) ≤ 0 ∧ 0 ≤ 2 by omega)
  refine C_aload_n dX7_length_5 rfl ?_
  refine C_get (v := vi (σ.1 1)) dX7_length_6 f_X7_105 (fun h hc => ⟨_, hc.1, congrArg (fun z => some (vi z)) (show ((mfl σ 0 0).1 1) = (σ.1 1) by simp [mfl, mar, upF])⟩) ?_
  have g_6 := hw.f1
  refine C_iret dX7_length_9 rfl ?_
  unfold det; rw [c_mlength]; exact ⟨rfl, rfl⟩
theorem r_mlength {σ : mS}  (hw : wfm σ)  : 0 ≤ (c_mlength σ ).1 ∧ (c_mlength σ ).1 < 401 := by
  unfold c_mlength
  have hw1 : wfm (mfl σ 0 0) := wfm_f (k := 0) hw (show (0 : Int) ≤ 0 ∧ 0 ≤ 2 by omega)
  have g_6 := hw.f1
  omega
theorem w_mlength {σ : mS}  (hw : wfm σ)  : wfm (c_mlength σ ).2 := by
  unfold c_mlength
  have hw1 : wfm (mfl σ 0 0) := wfm_f (k := 0) hw (show (0 : Int) ≤ 0 ∧ 0 ≤ 2 by omega)
  have g_6 := hw.f1
  exact hw1
def c_mfault (σ : mS)  : Int × mS := ((σ.1 13), (mfl σ 0 0))
theorem t_mfault {l : Launch} {G : jG} {d : Nat} {σ : mS}  (hw : wfm σ) (hd : 0 ≤ d)  : CJ jMod mown l G (Yx mX7_fault) d 0 0 0 [some (.ref 116)] [] σ (det (some (vi (c_mfault σ ).1)) (c_mfault σ ).2) := by
  refine C_aload_n dX7_fault_0 rfl ?_
  refine C_iconst dX7_fault_1 ?_
  refine C_put (σ' := (mfl σ 0 0)) dX7_fault_2 f_X7_102 jfit_i mown_0 (fun h hc => hc.pf0) ?_
  have hw1 : wfm (mfl σ 0 0) := wfm_f (k := 0) hw (show (0 : Int) ≤ 0 ∧ 0 ≤ 2 by omega)
  refine C_aload_n dX7_fault_5 rfl ?_
  refine C_get (v := vi (σ.1 13)) dX7_fault_6 f_X7_32 (fun h hc => ⟨_, hc.1, congrArg (fun z => some (vi z)) (show ((mfl σ 0 0).1 13) = (σ.1 13) by simp [mfl, mar, upF])⟩) ?_
  have g_6 := hw.f13
  refine C_iret dX7_fault_9 rfl ?_
  unfold det; rw [c_mfault]; exact ⟨rfl, rfl⟩
theorem r_mfault {σ : mS}  (hw : wfm σ)  : -1 ≤ (c_mfault σ ).1 ∧ (c_mfault σ ).1 < 401 := by
  unfold c_mfault
  have hw1 : wfm (mfl σ 0 0) := wfm_f (k := 0) hw (show (0 : Int) ≤ 0 ∧ 0 ≤ 2 by omega)
  have g_6 := hw.f13
  omega
theorem w_mfault {σ : mS}  (hw : wfm σ)  : wfm (c_mfault σ ).2 := by
  unfold c_mfault
  have hw1 : wfm (mfl σ 0 0) := wfm_f (k := 0) hw (show (0 : Int) ≤ 0 ∧ 0 ≤ 2 by omega)
  have g_6 := hw.f13
  exact hw1
def c_misType (σ : mS) (t : Int) : Bool := (if t < 0 then false else (if 4 ≤ t then false else true))
theorem t_misType {l : Launch} {G : jG} {d : Nat} {σ : mS} {t : Int} (hw : wfm σ) (hd : 0 ≤ d) (ht : rg t) : CJ jMod mown l G (Yx mX7_isType) d 0 0 0 [some (vi t)] [] σ (det (some (vi (bz (c_misType σ t)))) σ) := by
  refine C_iload_n dX7_isType_0 rfl ?_
  refine C_if_lt (tgt := 13) dX7_isType_1 (by decide) (by omega) (fun c_1 => ?_) (fun c_1 => ?_)
  · refine C_iconst dX7_isType_13 ?_
    refine C_zret dX7_isType_14 rfl (by first | exact Or.inl rfl | exact Or.inr rfl | exact bz_01 _) ?_
    unfold det; rw [c_misType, if_pos (by omega)]; exact ⟨rfl, rfl⟩
  · refine C_iload_n dX7_isType_4 rfl ?_
    refine C_iconst dX7_isType_5 ?_
    refine C_icmp_ge (tgt := 13) dX7_isType_6 (by decide) (by omega) (by omega) (fun c_6 => ?_) (fun c_6 => ?_)
    · refine C_iconst dX7_isType_13 ?_
      refine C_zret dX7_isType_14 rfl (by first | exact Or.inl rfl | exact Or.inr rfl | exact bz_01 _) ?_
      unfold det; rw [c_misType, if_neg (by omega), if_pos (by omega)]; exact ⟨rfl, rfl⟩
    · refine C_iconst dX7_isType_9 ?_
      refine C_goto (tgt := 14) dX7_isType_10 (by decide) ?_
      refine C_zret dX7_isType_14 rfl (by first | exact Or.inl rfl | exact Or.inr rfl | exact bz_01 _) ?_
      unfold det; rw [c_misType, if_neg (by omega), if_neg (by omega)]; exact ⟨rfl, rfl⟩
def c_misLetter (σ : mS) (c : Int) : Bool := (if c < 65 then false else (if 90 < c then false else true))
theorem t_misLetter {l : Launch} {G : jG} {d : Nat} {σ : mS} {c : Int} (hw : wfm σ) (hd : 0 ≤ d) (hc : rg c) : CJ jMod mown l G (Yx mX7_isLetter) d 0 0 0 [some (vi c)] [] σ (det (some (vi (bz (c_misLetter σ c)))) σ) := by
  refine C_iload_n dX7_isLetter_0 rfl ?_
  refine C_bipush dX7_isLetter_1 (by decide) ?_
  refine C_icmp_lt (tgt := 16) dX7_isLetter_3 (by decide) (by omega) (by omega) (fun c_3 => ?_) (fun c_3 => ?_)
  · refine C_iconst dX7_isLetter_16 ?_
    refine C_zret dX7_isLetter_17 rfl (by first | exact Or.inl rfl | exact Or.inr rfl | exact bz_01 _) ?_
    unfold det; rw [c_misLetter, if_pos (by omega)]; exact ⟨rfl, rfl⟩
  · refine C_iload_n dX7_isLetter_6 rfl ?_
    refine C_bipush dX7_isLetter_7 (by decide) ?_
    refine C_icmp_gt (tgt := 16) dX7_isLetter_9 (by decide) (by omega) (by omega) (fun c_9 => ?_) (fun c_9 => ?_)
    · refine C_iconst dX7_isLetter_16 ?_
      refine C_zret dX7_isLetter_17 rfl (by first | exact Or.inl rfl | exact Or.inr rfl | exact bz_01 _) ?_
      unfold det; rw [c_misLetter, if_neg (by omega), if_pos (by omega)]; exact ⟨rfl, rfl⟩
    · refine C_iconst dX7_isLetter_12 ?_
      refine C_goto (tgt := 17) dX7_isLetter_13 (by decide) ?_
      refine C_zret dX7_isLetter_17 rfl (by first | exact Or.inl rfl | exact Or.inr rfl | exact bz_01 _) ?_
      unfold det; rw [c_misLetter, if_neg (by omega), if_neg (by omega)]; exact ⟨rfl, rfl⟩
theorem misLetter_t {σ : mS} {c : Int} (h : c_misLetter σ c = true) : 65 ≤ c ∧ c ≤ 90 := by
  unfold c_misLetter at h
  (repeat' split at h) <;> first | omega | cases h
def c_misTag (σ : mS) (v : Int) : Bool := (if v < 0 then false else (if (c_misLetter σ (v / 65536)) = true then (if (c_misLetter σ ((v / 256) % 256)) = true then (if (c_misLetter σ (v % 256)) = true then true else false) else false) else false))
theorem t_misTag {l : Launch} {G : jG} {d : Nat} {σ : mS} {v : Int} (hw : wfm σ) (hd : 1 ≤ d) (hv : rg v) : CJ jMod mown l G (Yx mX7_isTag) d 0 0 0 [some (vi v)] [] σ (det (some (vi (bz (c_misTag σ v)))) σ) := by
  refine C_iload_n dX7_isTag_0 rfl ?_
  refine C_if_lt (tgt := 43) dX7_isTag_1 (by decide) (by omega) (fun c_1 => ?_) (fun c_1 => ?_)
  · refine C_iconst dX7_isTag_43 ?_
    refine C_zret dX7_isTag_44 rfl (by first | exact Or.inl rfl | exact Or.inr rfl | exact bz_01 _) ?_
    unfold det; rw [c_misTag, if_pos (by omega)]; exact ⟨rfl, rfl⟩
  · refine C_iload_n dX7_isTag_4 rfl ?_
    refine C_bipush dX7_isTag_5 (by decide) ?_
    refine C_sshr16 dX7_isTag_7 (by omega) ?_
    refine D_callS (As := [vi _]) (d' := 0) (t_misLetter hw (Nat.le_refl _) (by omega)) dX7_isTag_8 s_X7_108 rfl (Nat.le_of_ble_eq_true rfl) (by omega) (Nat.le_of_ble_eq_true rfl) ?_
    simp only [Option.toList, List.nil_append, List.cons_append]
    refine C_if_eqZ (tgt := 43) dX7_isTag_11 (by decide) (fun c_11 => ?_) (fun c_11 => ?_)
    · refine C_iconst dX7_isTag_43 ?_
      refine C_zret dX7_isTag_44 rfl (by first | exact Or.inl rfl | exact Or.inr rfl | exact bz_01 _) ?_
      unfold det; rw [c_misTag, if_neg (by omega), if_neg (by rw [c_11]; decide)]; exact ⟨rfl, rfl⟩
    · have b_11_2 := misLetter_t (σ := _) (c := (v / 65536)) (by assumption)
      refine C_iload_n dX7_isTag_14 rfl ?_
      refine C_bipush dX7_isTag_15 (by decide) ?_
      refine C_sshr8 dX7_isTag_17 (by omega) ?_
      refine C_sipush dX7_isTag_18 (by decide) ?_
      refine C_and255 dX7_isTag_21 ?_
      refine D_callS (As := [vi _]) (d' := 0) (t_misLetter hw (Nat.le_refl _) (by omega)) dX7_isTag_22 s_X7_108 rfl (Nat.le_of_ble_eq_true rfl) (by omega) (Nat.le_of_ble_eq_true rfl) ?_
      simp only [Option.toList, List.nil_append, List.cons_append]
      refine C_if_eqZ (tgt := 43) dX7_isTag_25 (by decide) (fun c_25 => ?_) (fun c_25 => ?_)
      · refine C_iconst dX7_isTag_43 ?_
        refine C_zret dX7_isTag_44 rfl (by first | exact Or.inl rfl | exact Or.inr rfl | exact bz_01 _) ?_
        unfold det; rw [c_misTag, if_neg (by omega), if_pos c_11, if_neg (by rw [c_25]; decide)]; exact ⟨rfl, rfl⟩
      · have b_25_3 := misLetter_t (σ := _) (c := ((v / 256) % 256)) (by assumption)
        refine C_iload_n dX7_isTag_28 rfl ?_
        refine C_sipush dX7_isTag_29 (by decide) ?_
        refine C_and255 dX7_isTag_32 ?_
        refine D_callS (As := [vi _]) (d' := 0) (t_misLetter hw (Nat.le_refl _) (by omega)) dX7_isTag_33 s_X7_108 rfl (Nat.le_of_ble_eq_true rfl) (by omega) (Nat.le_of_ble_eq_true rfl) ?_
        simp only [Option.toList, List.nil_append, List.cons_append]
        refine C_if_eqZ (tgt := 43) dX7_isTag_36 (by decide) (fun c_36 => ?_) (fun c_36 => ?_)
        · refine C_iconst dX7_isTag_43 ?_
          refine C_zret dX7_isTag_44 rfl (by first | exact Or.inl rfl | exact Or.inr rfl | exact bz_01 _) ?_
          unfold det; rw [c_misTag, if_neg (by omega), if_pos c_11, if_pos c_25, if_neg (by rw [c_36]; decide)]; exact ⟨rfl, rfl⟩
        · have b_36_4 := misLetter_t (σ := _) (c := (v % 256)) (by assumption)
          refine C_iconst dX7_isTag_39 ?_
          refine C_goto (tgt := 44) dX7_isTag_40 (by decide) ?_
          refine C_zret dX7_isTag_44 rfl (by first | exact Or.inl rfl | exact Or.inr rfl | exact bz_01 _) ?_
          unfold det; rw [c_misTag, if_neg (by omega), if_pos c_11, if_pos c_25, if_pos c_36]; exact ⟨rfl, rfl⟩
def c_misEnvelope (σ : mS) (v : Int) : Bool := (if v = 5590594 then true else (if v = 5590618 then true else (if v = 5590599 then true else (if v = 5590597 then true else (if v = 5590600 then true else (if v = 5590612 then true else false))))))
theorem t_misEnvelope {l : Launch} {G : jG} {d : Nat} {σ : mS} {v : Int} (hw : wfm σ) (hd : 0 ≤ d) (hv : rg v) : CJ jMod mown l G (Yx mX7_isEnvelope) d 0 0 0 [some (vi v)] [] σ (det (some (vi (bz (c_misEnvelope σ v)))) σ) := by
  refine C_iload_n dX7_isEnvelope_0 rfl ?_
  refine C_ldc (5590594) dX7_isEnvelope_1 k_X7_112 ?_
  refine C_icmp_eq (tgt := 36) dX7_isEnvelope_3 (by decide) (by omega) (by omega) (fun c_3 => ?_) (fun c_3 => ?_)
  · refine C_iconst dX7_isEnvelope_36 ?_
    refine C_goto (tgt := 41) dX7_isEnvelope_37 (by decide) ?_
    refine C_zret dX7_isEnvelope_41 rfl (by first | exact Or.inl rfl | exact Or.inr rfl | exact bz_01 _) ?_
    unfold det; rw [c_misEnvelope, if_pos (by omega)]; exact ⟨rfl, rfl⟩
  · refine C_iload_n dX7_isEnvelope_6 rfl ?_
    refine C_ldc (5590618) dX7_isEnvelope_7 k_X7_113 ?_
    refine C_icmp_eq (tgt := 36) dX7_isEnvelope_9 (by decide) (by omega) (by omega) (fun c_9 => ?_) (fun c_9 => ?_)
    · refine C_iconst dX7_isEnvelope_36 ?_
      refine C_goto (tgt := 41) dX7_isEnvelope_37 (by decide) ?_
      refine C_zret dX7_isEnvelope_41 rfl (by first | exact Or.inl rfl | exact Or.inr rfl | exact bz_01 _) ?_
      unfold det; rw [c_misEnvelope, if_neg (by omega), if_pos (by omega)]; exact ⟨rfl, rfl⟩
    · refine C_iload_n dX7_isEnvelope_12 rfl ?_
      refine C_ldc (5590599) dX7_isEnvelope_13 k_X7_114 ?_
      refine C_icmp_eq (tgt := 36) dX7_isEnvelope_15 (by decide) (by omega) (by omega) (fun c_15 => ?_) (fun c_15 => ?_)
      · refine C_iconst dX7_isEnvelope_36 ?_
        refine C_goto (tgt := 41) dX7_isEnvelope_37 (by decide) ?_
        refine C_zret dX7_isEnvelope_41 rfl (by first | exact Or.inl rfl | exact Or.inr rfl | exact bz_01 _) ?_
        unfold det; rw [c_misEnvelope, if_neg (by omega), if_neg (by omega), if_pos (by omega)]; exact ⟨rfl, rfl⟩
      · refine C_iload_n dX7_isEnvelope_18 rfl ?_
        refine C_ldc (5590597) dX7_isEnvelope_19 k_X7_115 ?_
        refine C_icmp_eq (tgt := 36) dX7_isEnvelope_21 (by decide) (by omega) (by omega) (fun c_21 => ?_) (fun c_21 => ?_)
        · refine C_iconst dX7_isEnvelope_36 ?_
          refine C_goto (tgt := 41) dX7_isEnvelope_37 (by decide) ?_
          refine C_zret dX7_isEnvelope_41 rfl (by first | exact Or.inl rfl | exact Or.inr rfl | exact bz_01 _) ?_
          unfold det; rw [c_misEnvelope, if_neg (by omega), if_neg (by omega), if_neg (by omega), if_pos (by omega)]; exact ⟨rfl, rfl⟩
        · refine C_iload_n dX7_isEnvelope_24 rfl ?_
          refine C_ldc (5590600) dX7_isEnvelope_25 k_X7_116 ?_
          refine C_icmp_eq (tgt := 36) dX7_isEnvelope_27 (by decide) (by omega) (by omega) (fun c_27 => ?_) (fun c_27 => ?_)
          · refine C_iconst dX7_isEnvelope_36 ?_
            refine C_goto (tgt := 41) dX7_isEnvelope_37 (by decide) ?_
            refine C_zret dX7_isEnvelope_41 rfl (by first | exact Or.inl rfl | exact Or.inr rfl | exact bz_01 _) ?_
            unfold det; rw [c_misEnvelope, if_neg (by omega), if_neg (by omega), if_neg (by omega), if_neg (by omega), if_pos (by omega)]; exact ⟨rfl, rfl⟩
          · refine C_iload_n dX7_isEnvelope_30 rfl ?_
            refine C_ldc (5590612) dX7_isEnvelope_31 k_X7_117 ?_
            refine C_icmp_ne (tgt := 40) dX7_isEnvelope_33 (by decide) (by omega) (by omega) (fun c_33 => ?_) (fun c_33 => ?_)
            · refine C_iconst dX7_isEnvelope_40 ?_
              refine C_zret dX7_isEnvelope_41 rfl (by first | exact Or.inl rfl | exact Or.inr rfl | exact bz_01 _) ?_
              unfold det; rw [c_misEnvelope, if_neg (by omega), if_neg (by omega), if_neg (by omega), if_neg (by omega), if_neg (by omega), if_neg (by omega)]; exact ⟨rfl, rfl⟩
            · refine C_iconst dX7_isEnvelope_36 ?_
              refine C_goto (tgt := 41) dX7_isEnvelope_37 (by decide) ?_
              refine C_zret dX7_isEnvelope_41 rfl (by first | exact Or.inl rfl | exact Or.inr rfl | exact bz_01 _) ?_
              unfold det; rw [c_misEnvelope, if_neg (by omega), if_neg (by omega), if_neg (by omega), if_neg (by omega), if_neg (by omega), if_pos (by omega)]; exact ⟨rfl, rfl⟩
def c_mcanMark (σ : mS) (c : Int) : Bool := (if c ≤ 32 then false else (if (c_misLetter σ c) = true then false else (if c < 97 then (if c < 48 then true else (if c ≤ 57 then false else true)) else (if c ≤ 122 then false else (if c < 48 then true else (if c ≤ 57 then false else true))))))
theorem t_mcanMark {l : Launch} {G : jG} {d : Nat} {σ : mS} {c : Int} (hw : wfm σ) (hd : 1 ≤ d) (hc : rg c) : CJ jMod mown l G (Yx mX7_canMark) d 0 0 0 [some (vi c)] [] σ (det (some (vi (bz (c_mcanMark σ c)))) σ) := by
  refine C_iload_n dX7_canMark_0 rfl ?_
  refine C_bipush dX7_canMark_1 (by decide) ?_
  refine C_icmp_le (tgt := 41) dX7_canMark_3 (by decide) (by omega) (by omega) (fun c_3 => ?_) (fun c_3 => ?_)
  · refine C_iconst dX7_canMark_41 ?_
    refine C_zret dX7_canMark_42 rfl (by first | exact Or.inl rfl | exact Or.inr rfl | exact bz_01 _) ?_
    unfold det; rw [c_mcanMark, if_pos (by omega)]; exact ⟨rfl, rfl⟩
  · refine C_iload_n dX7_canMark_6 rfl ?_
    refine D_callS (As := [vi _]) (d' := 0) (t_misLetter hw (Nat.le_refl _) (by omega)) dX7_canMark_7 s_X7_108 rfl (Nat.le_of_ble_eq_true rfl) (by omega) (Nat.le_of_ble_eq_true rfl) ?_
    simp only [Option.toList, List.nil_append, List.cons_append]
    refine C_if_neZ (tgt := 41) dX7_canMark_10 (by decide) (fun c_10 => ?_) (fun c_10 => ?_)
    · have b_10_2 := misLetter_t (σ := _) (c := c) (by assumption)
      refine C_iconst dX7_canMark_41 ?_
      refine C_zret dX7_canMark_42 rfl (by first | exact Or.inl rfl | exact Or.inr rfl | exact bz_01 _) ?_
      unfold det; rw [c_mcanMark, if_neg (by omega), if_pos c_10]; exact ⟨rfl, rfl⟩
    · refine C_iload_n dX7_canMark_13 rfl ?_
      refine C_bipush dX7_canMark_14 (by decide) ?_
      refine C_icmp_lt (tgt := 25) dX7_canMark_16 (by decide) (by omega) (by omega) (fun c_16 => ?_) (fun c_16 => ?_)
      · refine C_iload_n dX7_canMark_25 rfl ?_
        refine C_bipush dX7_canMark_26 (by decide) ?_
        refine C_icmp_lt (tgt := 37) dX7_canMark_28 (by decide) (by omega) (by omega) (fun c_28 => ?_) (fun c_28 => ?_)
        · refine C_iconst dX7_canMark_37 ?_
          refine C_goto (tgt := 42) dX7_canMark_38 (by decide) ?_
          refine C_zret dX7_canMark_42 rfl (by first | exact Or.inl rfl | exact Or.inr rfl | exact bz_01 _) ?_
          unfold det; rw [c_mcanMark, if_neg (by omega), if_neg (by rw [c_10]; decide), if_pos (by omega), if_pos (by omega)]; exact ⟨rfl, rfl⟩
        · refine C_iload_n dX7_canMark_31 rfl ?_
          refine C_bipush dX7_canMark_32 (by decide) ?_
          refine C_icmp_le (tgt := 41) dX7_canMark_34 (by decide) (by omega) (by omega) (fun c_34 => ?_) (fun c_34 => ?_)
          · refine C_iconst dX7_canMark_41 ?_
            refine C_zret dX7_canMark_42 rfl (by first | exact Or.inl rfl | exact Or.inr rfl | exact bz_01 _) ?_
            unfold det; rw [c_mcanMark, if_neg (by omega), if_neg (by rw [c_10]; decide), if_pos (by omega), if_neg (by omega), if_pos (by omega)]; exact ⟨rfl, rfl⟩
          · refine C_iconst dX7_canMark_37 ?_
            refine C_goto (tgt := 42) dX7_canMark_38 (by decide) ?_
            refine C_zret dX7_canMark_42 rfl (by first | exact Or.inl rfl | exact Or.inr rfl | exact bz_01 _) ?_
            unfold det; rw [c_mcanMark, if_neg (by omega), if_neg (by rw [c_10]; decide), if_pos (by omega), if_neg (by omega), if_neg (by omega)]; exact ⟨rfl, rfl⟩
      · refine C_iload_n dX7_canMark_19 rfl ?_
        refine C_bipush dX7_canMark_20 (by decide) ?_
        refine C_icmp_le (tgt := 41) dX7_canMark_22 (by decide) (by omega) (by omega) (fun c_22 => ?_) (fun c_22 => ?_)
        · refine C_iconst dX7_canMark_41 ?_
          refine C_zret dX7_canMark_42 rfl (by first | exact Or.inl rfl | exact Or.inr rfl | exact bz_01 _) ?_
          unfold det; rw [c_mcanMark, if_neg (by omega), if_neg (by rw [c_10]; decide), if_neg (by omega), if_pos (by omega)]; exact ⟨rfl, rfl⟩
        · refine C_iload_n dX7_canMark_25 rfl ?_
          refine C_bipush dX7_canMark_26 (by decide) ?_
          refine C_icmp_lt (tgt := 37) dX7_canMark_28 (by decide) (by omega) (by omega) (fun c_28 => ?_) (fun c_28 => ?_)
          · refine C_iconst dX7_canMark_37 ?_
            refine C_goto (tgt := 42) dX7_canMark_38 (by decide) ?_
            refine C_zret dX7_canMark_42 rfl (by first | exact Or.inl rfl | exact Or.inr rfl | exact bz_01 _) ?_
            unfold det; rw [c_mcanMark, if_neg (by omega), if_neg (by rw [c_10]; decide), if_neg (by omega), if_neg (by omega), if_pos (by omega)]; exact ⟨rfl, rfl⟩
          · refine C_iload_n dX7_canMark_31 rfl ?_
            refine C_bipush dX7_canMark_32 (by decide) ?_
            refine C_icmp_le (tgt := 41) dX7_canMark_34 (by decide) (by omega) (by omega) (fun c_34 => ?_) (fun c_34 => ?_)
            · refine C_iconst dX7_canMark_41 ?_
              refine C_zret dX7_canMark_42 rfl (by first | exact Or.inl rfl | exact Or.inr rfl | exact bz_01 _) ?_
              unfold det; rw [c_mcanMark, if_neg (by omega), if_neg (by rw [c_10]; decide), if_neg (by omega), if_neg (by omega), if_neg (by omega), if_pos (by omega)]; exact ⟨rfl, rfl⟩
            · refine C_iconst dX7_canMark_37 ?_
              refine C_goto (tgt := 42) dX7_canMark_38 (by decide) ?_
              refine C_zret dX7_canMark_42 rfl (by first | exact Or.inl rfl | exact Or.inr rfl | exact bz_01 _) ?_
              unfold det; rw [c_mcanMark, if_neg (by omega), if_neg (by rw [c_10]; decide), if_neg (by omega), if_neg (by omega), if_neg (by omega), if_neg (by omega)]; exact ⟨rfl, rfl⟩
def c_mfollowingL (t : Int) (k : Int) (g : Int) : Nat → Int → mS → Int
  | 0, _, σ => 0
  | fu + 1, x, σ => (if (mat (σ.2 3) t) ≤ x then (-1) else (if (mat (σ.2 7) ((24 * t) + x)) = g then x else (c_mfollowingL t k g fu (x + 1) σ)))
def c_mfollowing (σ : mS) (t : Int) (k : Int) (g : Int) : Int := (c_mfollowingL t k g (25) (k + 1) σ)
theorem t_mfollowingL {l : Launch} {G : jG} {d : Nat} {σ : mS} {t : Int} {k : Int} {g : Int} {x : Int} (hw : wfm σ) (hd : 0 ≤ d) (ht : 0 ≤ t ∧ t ≤ 3) (hk : -1 ≤ k ∧ k ≤ 23) (hg : rg g) (fu : Nat) (hx : 0 ≤ x ∧ x ≤ 24) (hm : 24 - x < (fu : Int)) : CJ jMod mown l G (Yx mX7_following) d 0 0 5 [some (.ref 116), some (vi t), some (vi k), some (vi g), some (vi x)] [] σ (det (some (vi (c_mfollowingL t k g fu x σ))) σ) := by
  induction fu generalizing σ x with
  | zero => exact absurd hm (by omega)
  | succ fu ih =>
    refine C_iload dX7_following_5 rfl ?_
    refine C_aload_n dX7_following_7 rfl ?_
    refine C_get (v := .ref 118) dX7_following_8 f_X7_13 (fun h hc => ⟨_, hc.1, rfl⟩) ?_
    refine C_iload_n dX7_following_11 rfl ?_
    refine C_iald (v := vi (mat (σ.2 3) t)) dX7_following_12 (by omega) (by omega) (fun h hc => hc.rd3 hw (by omega) (by omega)) ?_
    have e_12 := hw.a3 t
    refine C_icmp_ge (tgt := 41) dX7_following_13 (by decide) (by omega) (by omega) (fun c_13 => ?_) (fun c_13 => ?_)
    · refine C_iconst dX7_following_41 ?_
      refine C_iret dX7_following_42 rfl ?_
      unfold det; rw [c_mfollowingL, if_pos (by omega)]; exact ⟨rfl, rfl⟩
    · refine C_aload_n dX7_following_16 rfl ?_
      refine C_get (v := .ref 122) dX7_following_17 f_X7_26 (fun h hc => ⟨_, hc.1, rfl⟩) ?_
      refine C_bipush dX7_following_20 (by decide) ?_
      refine C_iload_n dX7_following_22 rfl ?_
      refine C_imul dX7_following_23 ?_
      refine C_iload dX7_following_24 rfl ?_
      refine C_iadd dX7_following_26 ?_
      refine C_iald (v := vi (mat (σ.2 7) ((24 * t) + x))) dX7_following_27 (by omega) (by omega) (fun h hc => hc.rd7 hw (by omega) (by omega)) ?_
      have e_27 := hw.a7 ((24 * t) + x)
      refine C_iload_n dX7_following_28 rfl ?_
      refine C_icmp_ne (tgt := 35) dX7_following_29 (by decide) (by omega) (by omega) (fun c_29 => ?_) (fun c_29 => ?_)
      · refine C_iinc dX7_following_35 rfl (by decide) rfl ?_
        simp only [List.set_cons_zero, List.set_cons_succ]
        refine C_goto (tgt := 5) dX7_following_38 (by decide) ?_
        rw [c_mfollowingL, if_neg (by omega), if_neg (by omega)]
        refine CJ.mono (ls' := [some (.ref 116), some (vi t), some (vi k), some (vi g), some (vi (x + 1))]) (lsub_ok (by repeat (first | exact trivial | refine ⟨rfl, ?_⟩))) (fun _ _ q => q) ?_
        exact ih hw (by omega) (by omega)
      · refine C_iload dX7_following_32 rfl ?_
        refine C_iret dX7_following_34 rfl ?_
        unfold det; rw [c_mfollowingL, if_neg (by omega), if_pos (by omega)]; exact ⟨rfl, rfl⟩
theorem t_mfollowing {l : Launch} {G : jG} {d : Nat} {σ : mS} {t : Int} {k : Int} {g : Int} (hw : wfm σ) (hd : 0 ≤ d) (ht : 0 ≤ t ∧ t ≤ 3) (hk : -1 ≤ k ∧ k ≤ 23) (hg : rg g) : CJ jMod mown l G (Yx mX7_following) d 0 0 0 [some (.ref 116), some (vi t), some (vi k), some (vi g), none] [] σ (det (some (vi (c_mfollowing σ t k g))) σ) := by
  refine C_iload_n dX7_following_0 rfl ?_
  refine C_iconst dX7_following_1 ?_
  refine C_iadd dX7_following_2 ?_
  refine C_istore dX7_following_3 (by decide) rfl ?_
  simp only [List.set_cons_zero, List.set_cons_succ, jfin0, jfin1, jfin2, jfin3]
  rw [c_mfollowing]
  refine CJ.mono (ls' := [some (.ref 116), some (vi t), some (vi k), some (vi g), some (vi (k + 1))]) (lsub_ok (by repeat (first | exact trivial | refine ⟨rfl, ?_⟩))) (fun _ _ q => q) ?_
  exact t_mfollowingL hw hd ht hk hg (25) (by omega) (by omega)
theorem r_mfollowingL {σ : mS} {t : Int} {k : Int} {g : Int} {x : Int} (hw : wfm σ) (ht : 0 ≤ t ∧ t ≤ 3) (hk : -1 ≤ k ∧ k ≤ 23) (hg : rg g) (fu : Nat) (hx : 0 ≤ x ∧ x ≤ 24) : -1 ≤ (c_mfollowingL t k g fu x σ) ∧ (c_mfollowingL t k g fu x σ) < 24 := by
  induction fu generalizing σ x with
  | zero => unfold c_mfollowingL; omega
  | succ fu ih =>
    unfold c_mfollowingL
    split
    · have e_12 := hw.a3 t
      omega
    · split
      · have e_12 := hw.a3 t
        have e_27 := hw.a7 ((24 * t) + x)
        omega
      · have e_12 := hw.a3 t
        have e_27 := hw.a7 ((24 * t) + x)
        exact ih hw (by omega)
theorem r_mfollowing {σ : mS} {t : Int} {k : Int} {g : Int} (hw : wfm σ) (ht : 0 ≤ t ∧ t ≤ 3) (hk : -1 ≤ k ∧ k ≤ 23) (hg : rg g) : -1 ≤ (c_mfollowing σ t k g) ∧ (c_mfollowing σ t k g) < 24 := by
  unfold c_mfollowing
  exact r_mfollowingL hw ht hk hg (25) (by omega)
def c_madd (σ : mS) (t : Int) (v : Int) (b : Int) (c : Int) : Int × mS := ((mat ((mar (mar (mar (mar (mar σ 4 ((24 * t) + (mat (σ.2 3) t)) v) 5 ((24 * t) + (mat (σ.2 3) t)) b) 6 ((24 * t) + (mat (σ.2 3) t)) c) 7 ((24 * t) + (mat (σ.2 3) t)) (mat (σ.2 8) t)) 3 t ((mat (σ.2 3) t) + 1)).2 3) t), (mar (mar (mar (mar (mar σ 4 ((24 * t) + (mat (σ.2 3) t)) v) 5 ((24 * t) + (mat (σ.2 3) t)) b) 6 ((24 * t) + (mat (σ.2 3) t)) c) 7 ((24 * t) + (mat (σ.2 3) t)) (mat (σ.2 8) t)) 3 t ((mat (σ.2 3) t) + 1)))
theorem t_madd {l : Launch} {G : jG} {d : Nat} {σ : mS} {t : Int} {v : Int} {b : Int} {c : Int} (hw : wfm σ) (hd : 0 ≤ d) (ht : 0 ≤ t ∧ t ≤ 3) (hv : 0 ≤ v ∧ v ≤ 16777215) (hb : 0 ≤ b ∧ b ≤ 1) (hc : 0 ≤ c ∧ c ≤ 99) (hit : mat (σ.2 3) t < 24) : CJ jMod mown l G (Yx mX7_add) d 0 0 0 [some (.ref 116), some (vi t), some (vi v), some (vi b), some (vi c), none] [] σ (det (some (vi (c_madd σ t v b c).1)) (c_madd σ t v b c).2) := by
  refine C_bipush dX7_add_0 (by decide) ?_
  refine C_iload_n dX7_add_2 rfl ?_
  refine C_imul dX7_add_3 ?_
  refine C_aload_n dX7_add_4 rfl ?_
  refine C_get (v := .ref 118) dX7_add_5 f_X7_13 (fun h hc => ⟨_, hc.1, rfl⟩) ?_
  refine C_iload_n dX7_add_8 rfl ?_
  refine C_iald (v := vi (mat (σ.2 3) t)) dX7_add_9 (by omega) (by omega) (fun h hc => hc.rd3 hw (by omega) (by omega)) ?_
  have e_9 := hw.a3 t
  refine C_iadd dX7_add_10 ?_
  refine C_istore dX7_add_11 (by decide) rfl ?_
  simp only [List.set_cons_zero, List.set_cons_succ, jfin0, jfin1, jfin2, jfin3]
  refine C_aload_n dX7_add_13 rfl ?_
  refine C_get (v := .ref 119) dX7_add_14 f_X7_16 (fun h hc => ⟨_, hc.1, rfl⟩) ?_
  refine C_iload dX7_add_17 rfl ?_
  refine C_iload_n dX7_add_19 rfl ?_
  refine C_iast (σ' := (mar σ 4 ((24 * t) + (mat (σ.2 3) t)) v)) dX7_add_20 (by omega) (by omega) mo4 (fun h hc => hc.st4 hw (by omega) (by omega)) ?_
  have hw1 : wfm (mar σ 4 ((24 * t) + (mat (σ.2 3) t)) v) := wfm_a (k := 4) hw (show (0 : Int) ≤ v ∧ v ≤ 16777215 by omega)
  refine C_aload_n dX7_add_21 rfl ?_
  refine C_get (v := .ref 120) dX7_add_22 f_X7_19 (fun h hc => ⟨_, hc.1, rfl⟩) ?_
  refine C_iload dX7_add_25 rfl ?_
  refine C_iload_n dX7_add_27 rfl ?_
  refine C_zast (σ' := (mar (mar σ 4 ((24 * t) + (mat (σ.2 3) t)) v) 5 ((24 * t) + (mat (σ.2 3) t)) b)) dX7_add_28 (z01 (by omega)) (by omega) (by omega) mo5 (fun h hc => hc.st5 hw1 (by omega) (by omega)) ?_
  have hw2 : wfm (mar (mar σ 4 ((24 * t) + (mat (σ.2 3) t)) v) 5 ((24 * t) + (mat (σ.2 3) t)) b) := wfm_a (k := 5) hw1 (show (0 : Int) ≤ b ∧ b ≤ 1 by omega)
  refine C_aload_n dX7_add_29 rfl ?_
  refine C_get (v := .ref 121) dX7_add_30 f_X7_23 (fun h hc => ⟨_, hc.1, rfl⟩) ?_
  refine C_iload dX7_add_33 rfl ?_
  refine C_iload dX7_add_35 rfl ?_
  refine C_iast (σ' := (mar (mar (mar σ 4 ((24 * t) + (mat (σ.2 3) t)) v) 5 ((24 * t) + (mat (σ.2 3) t)) b) 6 ((24 * t) + (mat (σ.2 3) t)) c)) dX7_add_37 (by omega) (by omega) mo6 (fun h hc => hc.st6 hw2 (by omega) (by omega)) ?_
  have hw3 : wfm (mar (mar (mar σ 4 ((24 * t) + (mat (σ.2 3) t)) v) 5 ((24 * t) + (mat (σ.2 3) t)) b) 6 ((24 * t) + (mat (σ.2 3) t)) c) := wfm_a (k := 6) hw2 (show (0 : Int) ≤ c ∧ c ≤ 99 by omega)
  refine C_aload_n dX7_add_38 rfl ?_
  refine C_get (v := .ref 122) dX7_add_39 f_X7_26 (fun h hc => ⟨_, hc.1, rfl⟩) ?_
  refine C_iload dX7_add_42 rfl ?_
  refine C_aload_n dX7_add_44 rfl ?_
  refine C_get (v := .ref 123) dX7_add_45 f_X7_29 (fun h hc => ⟨_, hc.1, rfl⟩) ?_
  refine C_iload_n dX7_add_48 rfl ?_
  refine C_iald (v := vi (mat (σ.2 8) t)) dX7_add_49 (by omega) (by omega) (fun h hc => (hc.rd8 hw3 (by omega) (by omega)).imp (fun vs q => ⟨q.1, q.2.trans (congrArg (fun z => some (vi (mat z t))) (show (mar (mar (mar σ 4 ((24 * t) + (mat (σ.2 3) t)) v) 5 ((24 * t) + (mat (σ.2 3) t)) b) 6 ((24 * t) + (mat (σ.2 3) t)) c).2 8 = σ.2 8 by simp [mfl, mar, upF]))⟩)) ?_
  have e_49 := hw.a8 t
  refine C_iast (σ' := (mar (mar (mar (mar σ 4 ((24 * t) + (mat (σ.2 3) t)) v) 5 ((24 * t) + (mat (σ.2 3) t)) b) 6 ((24 * t) + (mat (σ.2 3) t)) c) 7 ((24 * t) + (mat (σ.2 3) t)) (mat (σ.2 8) t))) dX7_add_50 (by omega) (by omega) mo7 (fun h hc => hc.st7 hw3 (by omega) (by omega)) ?_
  have hw4 : wfm (mar (mar (mar (mar σ 4 ((24 * t) + (mat (σ.2 3) t)) v) 5 ((24 * t) + (mat (σ.2 3) t)) b) 6 ((24 * t) + (mat (σ.2 3) t)) c) 7 ((24 * t) + (mat (σ.2 3) t)) (mat (σ.2 8) t)) := wfm_a (k := 7) hw3 (show (-1 : Int) ≤ (mat (σ.2 8) t) ∧ (mat (σ.2 8) t) ≤ 23 by omega)
  refine C_aload_n dX7_add_51 rfl ?_
  refine C_get (v := .ref 118) dX7_add_52 f_X7_13 (fun h hc => ⟨_, hc.1, rfl⟩) ?_
  refine C_iload_n dX7_add_55 rfl ?_
  refine C_dup2 dX7_add_56 rfl rfl ?_
  refine C_iald (v := vi (mat (σ.2 3) t)) dX7_add_57 (by omega) (by omega) (fun h hc => (hc.rd3 hw4 (by omega) (by omega)).imp (fun vs q => ⟨q.1, q.2.trans (congrArg (fun z => some (vi (mat z t))) (show (mar (mar (mar (mar σ 4 ((24 * t) + (mat (σ.2 3) t)) v) 5 ((24 * t) + (mat (σ.2 3) t)) b) 6 ((24 * t) + (mat (σ.2 3) t)) c) 7 ((24 * t) + (mat (σ.2 3) t)) (mat (σ.2 8) t)).2 3 = σ.2 3 by simp [mfl, mar, upF]))⟩)) ?_
  have e_57 := hw.a3 t
  refine C_iconst dX7_add_58 ?_
  refine C_iadd dX7_add_59 ?_
  refine C_iast (σ' := (mar (mar (mar (mar (mar σ 4 ((24 * t) + (mat (σ.2 3) t)) v) 5 ((24 * t) + (mat (σ.2 3) t)) b) 6 ((24 * t) + (mat (σ.2 3) t)) c) 7 ((24 * t) + (mat (σ.2 3) t)) (mat (σ.2 8) t)) 3 t ((mat (σ.2 3) t) + 1))) dX7_add_60 (by omega) (by omega) mo3 (fun h hc => hc.st3 hw4 (by omega) (by omega)) ?_
  have hw5 : wfm (mar (mar (mar (mar (mar σ 4 ((24 * t) + (mat (σ.2 3) t)) v) 5 ((24 * t) + (mat (σ.2 3) t)) b) 6 ((24 * t) + (mat (σ.2 3) t)) c) 7 ((24 * t) + (mat (σ.2 3) t)) (mat (σ.2 8) t)) 3 t ((mat (σ.2 3) t) + 1)) := wfm_a (k := 3) hw4 (show (0 : Int) ≤ ((mat (σ.2 3) t) + 1) ∧ ((mat (σ.2 3) t) + 1) ≤ 24 by omega)
  refine C_aload_n dX7_add_61 rfl ?_
  refine C_get (v := .ref 118) dX7_add_62 f_X7_13 (fun h hc => ⟨_, hc.1, rfl⟩) ?_
  refine C_iload_n dX7_add_65 rfl ?_
  refine C_iald (v := vi (mat ((mar (mar (mar (mar (mar σ 4 ((24 * t) + (mat (σ.2 3) t)) v) 5 ((24 * t) + (mat (σ.2 3) t)) b) 6 ((24 * t) + (mat (σ.2 3) t)) c) 7 ((24 * t) + (mat (σ.2 3) t)) (mat (σ.2 8) t)) 3 t ((mat (σ.2 3) t) + 1)).2 3) t)) dX7_add_66 (by omega) (by omega) (fun h hc => hc.rd3 hw5 (by omega) (by omega)) ?_
  have e_66 := hw5.a3 t
  refine C_iret dX7_add_67 rfl ?_
  unfold det; rw [c_madd]; exact ⟨rfl, rfl⟩
theorem r_madd {σ : mS} {t : Int} {v : Int} {b : Int} {c : Int} (hw : wfm σ) (ht : 0 ≤ t ∧ t ≤ 3) (hv : 0 ≤ v ∧ v ≤ 16777215) (hb : 0 ≤ b ∧ b ≤ 1) (hc : 0 ≤ c ∧ c ≤ 99) (hit : mat (σ.2 3) t < 24) : 0 ≤ (c_madd σ t v b c).1 ∧ (c_madd σ t v b c).1 < 25 := by
  unfold c_madd
  have e_9 := hw.a3 t
  have hw1 : wfm (mar σ 4 ((24 * t) + (mat (σ.2 3) t)) v) := wfm_a (k := 4) hw (show (0 : Int) ≤ v ∧ v ≤ 16777215 by omega)
  have hw2 : wfm (mar (mar σ 4 ((24 * t) + (mat (σ.2 3) t)) v) 5 ((24 * t) + (mat (σ.2 3) t)) b) := wfm_a (k := 5) hw1 (show (0 : Int) ≤ b ∧ b ≤ 1 by omega)
  have hw3 : wfm (mar (mar (mar σ 4 ((24 * t) + (mat (σ.2 3) t)) v) 5 ((24 * t) + (mat (σ.2 3) t)) b) 6 ((24 * t) + (mat (σ.2 3) t)) c) := wfm_a (k := 6) hw2 (show (0 : Int) ≤ c ∧ c ≤ 99 by omega)
  have e_49 := hw.a8 t
  have hw4 : wfm (mar (mar (mar (mar σ 4 ((24 * t) + (mat (σ.2 3) t)) v) 5 ((24 * t) + (mat (σ.2 3) t)) b) 6 ((24 * t) + (mat (σ.2 3) t)) c) 7 ((24 * t) + (mat (σ.2 3) t)) (mat (σ.2 8) t)) := wfm_a (k := 7) hw3 (show (-1 : Int) ≤ (mat (σ.2 8) t) ∧ (mat (σ.2 8) t) ≤ 23 by omega)
  have e_57 := hw.a3 t
  have hw5 : wfm (mar (mar (mar (mar (mar σ 4 ((24 * t) + (mat (σ.2 3) t)) v) 5 ((24 * t) + (mat (σ.2 3) t)) b) 6 ((24 * t) + (mat (σ.2 3) t)) c) 7 ((24 * t) + (mat (σ.2 3) t)) (mat (σ.2 8) t)) 3 t ((mat (σ.2 3) t) + 1)) := wfm_a (k := 3) hw4 (show (0 : Int) ≤ ((mat (σ.2 3) t) + 1) ∧ ((mat (σ.2 3) t) + 1) ≤ 24 by omega)
  have e_66 := hw5.a3 t
  omega
theorem w_madd {σ : mS} {t : Int} {v : Int} {b : Int} {c : Int} (hw : wfm σ) (ht : 0 ≤ t ∧ t ≤ 3) (hv : 0 ≤ v ∧ v ≤ 16777215) (hb : 0 ≤ b ∧ b ≤ 1) (hc : 0 ≤ c ∧ c ≤ 99) (hit : mat (σ.2 3) t < 24) : wfm (c_madd σ t v b c).2 := by
  unfold c_madd
  have e_9 := hw.a3 t
  have hw1 : wfm (mar σ 4 ((24 * t) + (mat (σ.2 3) t)) v) := wfm_a (k := 4) hw (show (0 : Int) ≤ v ∧ v ≤ 16777215 by omega)
  have hw2 : wfm (mar (mar σ 4 ((24 * t) + (mat (σ.2 3) t)) v) 5 ((24 * t) + (mat (σ.2 3) t)) b) := wfm_a (k := 5) hw1 (show (0 : Int) ≤ b ∧ b ≤ 1 by omega)
  have hw3 : wfm (mar (mar (mar σ 4 ((24 * t) + (mat (σ.2 3) t)) v) 5 ((24 * t) + (mat (σ.2 3) t)) b) 6 ((24 * t) + (mat (σ.2 3) t)) c) := wfm_a (k := 6) hw2 (show (0 : Int) ≤ c ∧ c ≤ 99 by omega)
  have e_49 := hw.a8 t
  have hw4 : wfm (mar (mar (mar (mar σ 4 ((24 * t) + (mat (σ.2 3) t)) v) 5 ((24 * t) + (mat (σ.2 3) t)) b) 6 ((24 * t) + (mat (σ.2 3) t)) c) 7 ((24 * t) + (mat (σ.2 3) t)) (mat (σ.2 8) t)) := wfm_a (k := 7) hw3 (show (-1 : Int) ≤ (mat (σ.2 8) t) ∧ (mat (σ.2 8) t) ≤ 23 by omega)
  have e_57 := hw.a3 t
  have hw5 : wfm (mar (mar (mar (mar (mar σ 4 ((24 * t) + (mat (σ.2 3) t)) v) 5 ((24 * t) + (mat (σ.2 3) t)) b) 6 ((24 * t) + (mat (σ.2 3) t)) c) 7 ((24 * t) + (mat (σ.2 3) t)) (mat (σ.2 8) t)) 3 t ((mat (σ.2 3) t) + 1)) := wfm_a (k := 3) hw4 (show (0 : Int) ≤ ((mat (σ.2 3) t) + 1) ∧ ((mat (σ.2 3) t) + 1) ≤ 24 by omega)
  have e_66 := hw5.a3 t
  exact hw5
def c_misBare (σ : mS) (t : Int) : Bool := (if (mat (σ.2 8) t) < 0 then false else (if 0 ≤ (c_mfollowing σ t (-1) (mat (σ.2 8) t)) then false else true))
theorem t_misBare {l : Launch} {G : jG} {d : Nat} {σ : mS} {t : Int} (hw : wfm σ) (hd : 1 ≤ d) (ht : 0 ≤ t ∧ t ≤ 3) : CJ jMod mown l G (Yx mX7_isBare) d 0 0 0 [some (.ref 116), some (vi t)] [] σ (det (some (vi (bz (c_misBare σ t)))) σ) := by
  refine C_aload_n dX7_isBare_0 rfl ?_
  refine C_get (v := .ref 123) dX7_isBare_1 f_X7_29 (fun h hc => ⟨_, hc.1, rfl⟩) ?_
  refine C_iload_n dX7_isBare_4 rfl ?_
  refine C_iald (v := vi (mat (σ.2 8) t)) dX7_isBare_5 (by omega) (by omega) (fun h hc => hc.rd8 hw (by omega) (by omega)) ?_
  have e_5 := hw.a8 t
  refine C_if_lt (tgt := 28) dX7_isBare_6 (by decide) (by omega) (fun c_6 => ?_) (fun c_6 => ?_)
  · refine C_iconst dX7_isBare_28 ?_
    refine C_zret dX7_isBare_29 rfl (by first | exact Or.inl rfl | exact Or.inr rfl | exact bz_01 _) ?_
    unfold det; rw [c_misBare, if_pos (by omega)]; exact ⟨rfl, rfl⟩
  · refine C_aload_n dX7_isBare_9 rfl ?_
    refine C_iload_n dX7_isBare_10 rfl ?_
    refine C_iconst dX7_isBare_11 ?_
    refine C_aload_n dX7_isBare_12 rfl ?_
    refine C_get (v := .ref 123) dX7_isBare_13 f_X7_29 (fun h hc => ⟨_, hc.1, rfl⟩) ?_
    refine C_iload_n dX7_isBare_16 rfl ?_
    refine C_iald (v := vi (mat (σ.2 8) t)) dX7_isBare_17 (by omega) (by omega) (fun h hc => hc.rd8 hw (by omega) (by omega)) ?_
    have e_17 := hw.a8 t
    refine D_callV (As := [vi _, vi _, vi _]) (d' := 0) (t_mfollowing hw (Nat.le_refl _) (by omega) (by omega) (by omega)) dX7_isBare_18 v_X7_118 (fun h hc => ⟨_, hc.1⟩) rfl (Nat.le_of_ble_eq_true rfl) (by omega) (Nat.le_of_ble_eq_true rfl) ?_
    simp only [Option.toList, List.nil_append, List.cons_append]
    have r_18 := r_mfollowing (t := t) (k := (-1)) (g := (mat (σ.2 8) t)) hw (by omega) (by omega) (by omega)
    refine C_if_ge (tgt := 28) dX7_isBare_21 (by decide) (by omega) (fun c_21 => ?_) (fun c_21 => ?_)
    · refine C_iconst dX7_isBare_28 ?_
      refine C_zret dX7_isBare_29 rfl (by first | exact Or.inl rfl | exact Or.inr rfl | exact bz_01 _) ?_
      unfold det; rw [c_misBare, if_neg (by omega), if_pos (by omega)]; exact ⟨rfl, rfl⟩
    · refine C_iconst dX7_isBare_24 ?_
      refine C_goto (tgt := 29) dX7_isBare_25 (by decide) ?_
      refine C_zret dX7_isBare_29 rfl (by first | exact Or.inl rfl | exact Or.inr rfl | exact bz_01 _) ?_
      unfold det; rw [c_misBare, if_neg (by omega), if_neg (by omega)]; exact ⟨rfl, rfl⟩
