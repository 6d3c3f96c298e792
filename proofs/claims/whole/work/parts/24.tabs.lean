def c_isCapital (σ : cS) (c : Int) : Bool := (if c < 65 then false else (if 90 < c then false else true))
theorem t_isCapital {l : Launch} {G : jG} {d : Nat} {σ : cS} {c : Int} (hw : wf σ) (hd : 0 ≤ d) (hc : rg c) : CJ jCls jown l G (Yx mX6_isCapital) d 0 0 0 [some (vi c)] [] σ (det (some (vi (bz (c_isCapital σ c)))) σ) := by
  refine C_iload_n dX6_isCapital_0 rfl ?_
  refine C_bipush dX6_isCapital_1 (by decide) ?_
  refine C_icmp_lt (tgt := 16) dX6_isCapital_3 (by decide) (by omega) (by omega) (fun c_3 => ?_) (fun c_3 => ?_)
  · refine C_iconst dX6_isCapital_16 ?_
    refine C_zret dX6_isCapital_17 rfl (by first | exact Or.inl rfl | exact Or.inr rfl | exact bz_01 _) ?_
    unfold det; rw [c_isCapital, if_pos (by omega)]; exact ⟨rfl, rfl⟩
  · refine C_iload_n dX6_isCapital_6 rfl ?_
    refine C_bipush dX6_isCapital_7 (by decide) ?_
    refine C_icmp_gt (tgt := 16) dX6_isCapital_9 (by decide) (by omega) (by omega) (fun c_9 => ?_) (fun c_9 => ?_)
    · refine C_iconst dX6_isCapital_16 ?_
      refine C_zret dX6_isCapital_17 rfl (by first | exact Or.inl rfl | exact Or.inr rfl | exact bz_01 _) ?_
      unfold det; rw [c_isCapital, if_neg (by omega), if_pos (by omega)]; exact ⟨rfl, rfl⟩
    · refine C_iconst dX6_isCapital_12 ?_
      refine C_goto (tgt := 17) dX6_isCapital_13 (by decide) ?_
      refine C_zret dX6_isCapital_17 rfl (by first | exact Or.inl rfl | exact Or.inr rfl | exact bz_01 _) ?_
      unfold det; rw [c_isCapital, if_neg (by omega), if_neg (by omega)]; exact ⟨rfl, rfl⟩
def c_isDigit (σ : cS) (c : Int) : Bool := (if c < 48 then false else (if 57 < c then false else true))
theorem t_isDigit {l : Launch} {G : jG} {d : Nat} {σ : cS} {c : Int} (hw : wf σ) (hd : 0 ≤ d) (hc : rg c) : CJ jCls jown l G (Yx mX6_isDigit) d 0 0 0 [some (vi c)] [] σ (det (some (vi (bz (c_isDigit σ c)))) σ) := by
  refine C_iload_n dX6_isDigit_0 rfl ?_
  refine C_bipush dX6_isDigit_1 (by decide) ?_
  refine C_icmp_lt (tgt := 16) dX6_isDigit_3 (by decide) (by omega) (by omega) (fun c_3 => ?_) (fun c_3 => ?_)
  · refine C_iconst dX6_isDigit_16 ?_
    refine C_zret dX6_isDigit_17 rfl (by first | exact Or.inl rfl | exact Or.inr rfl | exact bz_01 _) ?_
    unfold det; rw [c_isDigit, if_pos (by omega)]; exact ⟨rfl, rfl⟩
  · refine C_iload_n dX6_isDigit_6 rfl ?_
    refine C_bipush dX6_isDigit_7 (by decide) ?_
    refine C_icmp_gt (tgt := 16) dX6_isDigit_9 (by decide) (by omega) (by omega) (fun c_9 => ?_) (fun c_9 => ?_)
    · refine C_iconst dX6_isDigit_16 ?_
      refine C_zret dX6_isDigit_17 rfl (by first | exact Or.inl rfl | exact Or.inr rfl | exact bz_01 _) ?_
      unfold det; rw [c_isDigit, if_neg (by omega), if_pos (by omega)]; exact ⟨rfl, rfl⟩
    · refine C_iconst dX6_isDigit_12 ?_
      refine C_goto (tgt := 17) dX6_isDigit_13 (by decide) ?_
      refine C_zret dX6_isDigit_17 rfl (by first | exact Or.inl rfl | exact Or.inr rfl | exact bz_01 _) ?_
      unfold det; rw [c_isDigit, if_neg (by omega), if_neg (by omega)]; exact ⟨rfl, rfl⟩
def c_isMost (σ : cS) (c : Int) : Bool := (if c < 1 then false else (if 99 < c then false else true))
theorem t_isMost {l : Launch} {G : jG} {d : Nat} {σ : cS} {c : Int} (hw : wf σ) (hd : 0 ≤ d) (hc : rg c) : CJ jCls jown l G (Yx mX6_isMost) d 0 0 0 [some (vi c)] [] σ (det (some (vi (bz (c_isMost σ c)))) σ) := by
  refine C_iload_n dX6_isMost_0 rfl ?_
  refine C_iconst dX6_isMost_1 ?_
  refine C_icmp_lt (tgt := 15) dX6_isMost_2 (by decide) (by omega) (by omega) (fun c_2 => ?_) (fun c_2 => ?_)
  · refine C_iconst dX6_isMost_15 ?_
    refine C_zret dX6_isMost_16 rfl (by first | exact Or.inl rfl | exact Or.inr rfl | exact bz_01 _) ?_
    unfold det; rw [c_isMost, if_pos (by omega)]; exact ⟨rfl, rfl⟩
  · refine C_iload_n dX6_isMost_5 rfl ?_
    refine C_bipush dX6_isMost_6 (by decide) ?_
    refine C_icmp_gt (tgt := 15) dX6_isMost_8 (by decide) (by omega) (by omega) (fun c_8 => ?_) (fun c_8 => ?_)
    · refine C_iconst dX6_isMost_15 ?_
      refine C_zret dX6_isMost_16 rfl (by first | exact Or.inl rfl | exact Or.inr rfl | exact bz_01 _) ?_
      unfold det; rw [c_isMost, if_neg (by omega), if_pos (by omega)]; exact ⟨rfl, rfl⟩
    · refine C_iconst dX6_isMost_11 ?_
      refine C_goto (tgt := 16) dX6_isMost_12 (by decide) ?_
      refine C_zret dX6_isMost_16 rfl (by first | exact Or.inl rfl | exact Or.inr rfl | exact bz_01 _) ?_
      unfold det; rw [c_isMost, if_neg (by omega), if_neg (by omega)]; exact ⟨rfl, rfl⟩
def c_isEnvelopeTag (σ : cS) (c : Int) : Bool := (if c = 5590594 then true else (if c = 5590618 then true else (if c = 5590599 then true else (if c = 5590597 then true else (if c = 5590600 then true else (if c = 5590612 then true else false))))))
theorem t_isEnvelopeTag {l : Launch} {G : jG} {d : Nat} {σ : cS} {c : Int} (hw : wf σ) (hd : 0 ≤ d) (hc : rg c) : CJ jCls jown l G (Yx mX6_isEnvelopeTag) d 0 0 0 [some (vi c)] [] σ (det (some (vi (bz (c_isEnvelopeTag σ c)))) σ) := by
  refine C_iload_n dX6_isEnvelopeTag_0 rfl ?_
  refine C_ldc (5590594) dX6_isEnvelopeTag_1 k_X6_196 ?_
  refine C_icmp_eq (tgt := 36) dX6_isEnvelopeTag_3 (by decide) (by omega) (by omega) (fun c_3 => ?_) (fun c_3 => ?_)
  · refine C_iconst dX6_isEnvelopeTag_36 ?_
    refine C_goto (tgt := 41) dX6_isEnvelopeTag_37 (by decide) ?_
    refine C_zret dX6_isEnvelopeTag_41 rfl (by first | exact Or.inl rfl | exact Or.inr rfl | exact bz_01 _) ?_
    unfold det; rw [c_isEnvelopeTag, if_pos (by omega)]; exact ⟨rfl, rfl⟩
  · refine C_iload_n dX6_isEnvelopeTag_6 rfl ?_
    refine C_ldc (5590618) dX6_isEnvelopeTag_7 k_X6_197 ?_
    refine C_icmp_eq (tgt := 36) dX6_isEnvelopeTag_9 (by decide) (by omega) (by omega) (fun c_9 => ?_) (fun c_9 => ?_)
    · refine C_iconst dX6_isEnvelopeTag_36 ?_
      refine C_goto (tgt := 41) dX6_isEnvelopeTag_37 (by decide) ?_
      refine C_zret dX6_isEnvelopeTag_41 rfl (by first | exact Or.inl rfl | exact Or.inr rfl | exact bz_01 _) ?_
      unfold det; rw [c_isEnvelopeTag, if_neg (by omega), if_pos (by omega)]; exact ⟨rfl, rfl⟩
    · refine C_iload_n dX6_isEnvelopeTag_12 rfl ?_
      refine C_ldc (5590599) dX6_isEnvelopeTag_13 k_X6_198 ?_
      refine C_icmp_eq (tgt := 36) dX6_isEnvelopeTag_15 (by decide) (by omega) (by omega) (fun c_15 => ?_) (fun c_15 => ?_)
      · refine C_iconst dX6_isEnvelopeTag_36 ?_
        refine C_goto (tgt := 41) dX6_isEnvelopeTag_37 (by decide) ?_
        refine C_zret dX6_isEnvelopeTag_41 rfl (by first | exact Or.inl rfl | exact Or.inr rfl | exact bz_01 _) ?_
        unfold det; rw [c_isEnvelopeTag, if_neg (by omega), if_neg (by omega), if_pos (by omega)]; exact ⟨rfl, rfl⟩
      · refine C_iload_n dX6_isEnvelopeTag_18 rfl ?_
        refine C_ldc (5590597) dX6_isEnvelopeTag_19 k_X6_199 ?_
        refine C_icmp_eq (tgt := 36) dX6_isEnvelopeTag_21 (by decide) (by omega) (by omega) (fun c_21 => ?_) (fun c_21 => ?_)
        · refine C_iconst dX6_isEnvelopeTag_36 ?_
          refine C_goto (tgt := 41) dX6_isEnvelopeTag_37 (by decide) ?_
          refine C_zret dX6_isEnvelopeTag_41 rfl (by first | exact Or.inl rfl | exact Or.inr rfl | exact bz_01 _) ?_
          unfold det; rw [c_isEnvelopeTag, if_neg (by omega), if_neg (by omega), if_neg (by omega), if_pos (by omega)]; exact ⟨rfl, rfl⟩
        · refine C_iload_n dX6_isEnvelopeTag_24 rfl ?_
          refine C_ldc (5590600) dX6_isEnvelopeTag_25 k_X6_200 ?_
          refine C_icmp_eq (tgt := 36) dX6_isEnvelopeTag_27 (by decide) (by omega) (by omega) (fun c_27 => ?_) (fun c_27 => ?_)
          · refine C_iconst dX6_isEnvelopeTag_36 ?_
            refine C_goto (tgt := 41) dX6_isEnvelopeTag_37 (by decide) ?_
            refine C_zret dX6_isEnvelopeTag_41 rfl (by first | exact Or.inl rfl | exact Or.inr rfl | exact bz_01 _) ?_
            unfold det; rw [c_isEnvelopeTag, if_neg (by omega), if_neg (by omega), if_neg (by omega), if_neg (by omega), if_pos (by omega)]; exact ⟨rfl, rfl⟩
          · refine C_iload_n dX6_isEnvelopeTag_30 rfl ?_
            refine C_ldc (5590612) dX6_isEnvelopeTag_31 k_X6_201 ?_
            refine C_icmp_ne (tgt := 40) dX6_isEnvelopeTag_33 (by decide) (by omega) (by omega) (fun c_33 => ?_) (fun c_33 => ?_)
            · refine C_iconst dX6_isEnvelopeTag_40 ?_
              refine C_zret dX6_isEnvelopeTag_41 rfl (by first | exact Or.inl rfl | exact Or.inr rfl | exact bz_01 _) ?_
              unfold det; rw [c_isEnvelopeTag, if_neg (by omega), if_neg (by omega), if_neg (by omega), if_neg (by omega), if_neg (by omega), if_neg (by omega)]; exact ⟨rfl, rfl⟩
            · refine C_iconst dX6_isEnvelopeTag_36 ?_
              refine C_goto (tgt := 41) dX6_isEnvelopeTag_37 (by decide) ?_
              refine C_zret dX6_isEnvelopeTag_41 rfl (by first | exact Or.inl rfl | exact Or.inr rfl | exact bz_01 _) ?_
              unfold det; rw [c_isEnvelopeTag, if_neg (by omega), if_neg (by omega), if_neg (by omega), if_neg (by omega), if_neg (by omega), if_pos (by omega)]; exact ⟨rfl, rfl⟩
def c_isEmpty (σ : cS) (t : Nat) : Bool := (if (σ.1 (t + 1)).length = 0 then true else false)
theorem t_isEmpty {l : Launch} {G : jG} {d : Nat} {σ : cS} {t : Nat} (hw : wf σ) (hd : 1 ≤ d) (ht : kd t = 4) : CJ jCls jown l G (Yx mX4_isEmpty) d 0 0 0 [some (.ref t)] [] σ (det (some (vi (bz (c_isEmpty σ t)))) σ) := by
  refine C_aload_n dX4_isEmpty_0 rfl ?_
  refine C_get dX4_isEmpty_1 f_X4_14 (fun h hc => ⟨_, hc.2.2.2.1 _ ht, rfl⟩) ?_
  refine D_callV (As := []) (d' := 0) (row_size hw (kT1 ht)) dX4_isEmpty_4 v_X4_45 (fun h hc => ⟨_, (hc.1 _ (kT1 ht)).1⟩) rfl (Nat.le_of_ble_eq_true rfl) (by omega) (Nat.le_of_ble_eq_true rfl) ?_
  simp only [Option.toList, List.nil_append, List.cons_append]
  have r_4 := hw.len (kT1 ht)
  refine C_if_ne (tgt := 14) dX4_isEmpty_7 (by decide) (by omega) (fun c_7 => ?_) (fun c_7 => ?_)
  · refine C_iconst dX4_isEmpty_14 ?_
    refine C_zret dX4_isEmpty_15 rfl (by first | exact Or.inl rfl | exact Or.inr rfl | exact bz_01 _) ?_
    unfold det; rw [c_isEmpty, if_neg (by omega)]; exact ⟨rfl, rfl⟩
  · refine C_iconst dX4_isEmpty_10 ?_
    refine C_goto (tgt := 15) dX4_isEmpty_11 (by decide) ?_
    refine C_zret dX4_isEmpty_15 rfl (by first | exact Or.inl rfl | exact Or.inr rfl | exact bz_01 _) ?_
    unfold det; rw [c_isEmpty, if_pos (by omega)]; exact ⟨rfl, rfl⟩
def c_tisFull (σ : cS) (t : Nat) : Bool := (if (σ.1 (t + 1)).length < 24 then false else true)
theorem t_tisFull {l : Launch} {G : jG} {d : Nat} {σ : cS} {t : Nat} (hw : wf σ) (hd : 1 ≤ d) (ht : kd t = 4) : CJ jCls jown l G (Yx mX4_isFull) d 0 0 0 [some (.ref t)] [] σ (det (some (vi (bz (c_tisFull σ t)))) σ) := by
  refine C_aload_n dX4_isFull_0 rfl ?_
  refine C_get dX4_isFull_1 f_X4_14 (fun h hc => ⟨_, hc.2.2.2.1 _ ht, rfl⟩) ?_
  refine D_callV (As := []) (d' := 0) (row_size hw (kT1 ht)) dX4_isFull_4 v_X4_45 (fun h hc => ⟨_, (hc.1 _ (kT1 ht)).1⟩) rfl (Nat.le_of_ble_eq_true rfl) (by omega) (Nat.le_of_ble_eq_true rfl) ?_
  simp only [Option.toList, List.nil_append, List.cons_append]
  have r_4 := hw.len (kT1 ht)
  refine C_bipush dX4_isFull_7 (by decide) ?_
  refine C_icmp_lt (tgt := 16) dX4_isFull_9 (by decide) (by omega) (by omega) (fun c_9 => ?_) (fun c_9 => ?_)
  · refine C_iconst dX4_isFull_16 ?_
    refine C_zret dX4_isFull_17 rfl (by first | exact Or.inl rfl | exact Or.inr rfl | exact bz_01 _) ?_
    unfold det; rw [c_tisFull, if_pos (by omega)]; exact ⟨rfl, rfl⟩
  · refine C_iconst dX4_isFull_12 ?_
    refine C_goto (tgt := 17) dX4_isFull_13 (by decide) ?_
    refine C_zret dX4_isFull_17 rfl (by first | exact Or.inl rfl | exact Or.inr rfl | exact bz_01 _) ?_
    unfold det; rw [c_tisFull, if_neg (by omega)]; exact ⟨rfl, rfl⟩
def c_isDeepest (σ : cS) (t : Nat) : Bool := (if (σ.2.1 t 5) < 3 then false else true)
theorem t_isDeepest {l : Launch} {G : jG} {d : Nat} {σ : cS} {t : Nat} (hw : wf σ) (hd : 0 ≤ d) (ht : kd t = 4) : CJ jCls jown l G (Yx mX4_isDeepest) d 0 0 0 [some (.ref t)] [] σ (det (some (vi (bz (c_isDeepest σ t)))) σ) := by
  refine C_aload_n dX4_isDeepest_0 rfl ?_
  refine C_get dX4_isDeepest_1 f_X4_33 (fun h hc => ⟨_, hc.2.2.2.1 _ ht, rfl⟩) ?_
  have g_1 := hw.2.2.1 t 5
  refine C_iconst dX4_isDeepest_4 ?_
  refine C_icmp_lt (tgt := 12) dX4_isDeepest_5 (by decide) (by omega) (by omega) (fun c_5 => ?_) (fun c_5 => ?_)
  · refine C_iconst dX4_isDeepest_12 ?_
    refine C_zret dX4_isDeepest_13 rfl (by first | exact Or.inl rfl | exact Or.inr rfl | exact bz_01 _) ?_
    unfold det; rw [c_isDeepest, if_pos (by omega)]; exact ⟨rfl, rfl⟩
  · refine C_iconst dX4_isDeepest_8 ?_
    refine C_goto (tgt := 13) dX4_isDeepest_9 (by decide) ?_
    refine C_zret dX4_isDeepest_13 rfl (by first | exact Or.inl rfl | exact Or.inr rfl | exact bz_01 _) ?_
    unfold det; rw [c_isDeepest, if_neg (by omega)]; exact ⟨rfl, rfl⟩
def c_wantsTrigger (σ : cS) (t : Nat) : Bool := (if (σ.2.1 t 4) = (-1) then false else (if (σ.2.1 t 4) = ((σ.1 (t + 1)).length - 1) then true else false))
theorem t_wantsTrigger {l : Launch} {G : jG} {d : Nat} {σ : cS} {t : Nat} (hw : wf σ) (hd : 1 ≤ d) (ht : kd t = 4) : CJ jCls jown l G (Yx mX4_wantsTrigger) d 0 0 0 [some (.ref t)] [] σ (det (some (vi (bz (c_wantsTrigger σ t)))) σ) := by
  refine C_aload_n dX4_wantsTrigger_0 rfl ?_
  refine C_get dX4_wantsTrigger_1 f_X4_29 (fun h hc => ⟨_, hc.2.2.2.1 _ ht, rfl⟩) ?_
  have g_1 := hw.2.2.1 t 4
  refine C_iconst dX4_wantsTrigger_4 ?_
  refine C_icmp_eq (tgt := 28) dX4_wantsTrigger_5 (by decide) (by omega) (by omega) (fun c_5 => ?_) (fun c_5 => ?_)
  · refine C_iconst dX4_wantsTrigger_28 ?_
    refine C_zret dX4_wantsTrigger_29 rfl (by first | exact Or.inl rfl | exact Or.inr rfl | exact bz_01 _) ?_
    unfold det; rw [c_wantsTrigger, if_pos (by omega)]; exact ⟨rfl, rfl⟩
  · refine C_aload_n dX4_wantsTrigger_8 rfl ?_
    refine C_get dX4_wantsTrigger_9 f_X4_29 (fun h hc => ⟨_, hc.2.2.2.1 _ ht, rfl⟩) ?_
    have g_9 := hw.2.2.1 t 4
    refine C_aload_n dX4_wantsTrigger_12 rfl ?_
    refine C_get dX4_wantsTrigger_13 f_X4_14 (fun h hc => ⟨_, hc.2.2.2.1 _ ht, rfl⟩) ?_
    refine D_callV (As := []) (d' := 0) (row_size hw (kT1 ht)) dX4_wantsTrigger_16 v_X4_45 (fun h hc => ⟨_, (hc.1 _ (kT1 ht)).1⟩) rfl (Nat.le_of_ble_eq_true rfl) (by omega) (Nat.le_of_ble_eq_true rfl) ?_
    simp only [Option.toList, List.nil_append, List.cons_append]
    have r_16 := hw.len (kT1 ht)
    refine C_iconst dX4_wantsTrigger_19 ?_
    refine C_isub dX4_wantsTrigger_20 ?_
    refine C_icmp_ne (tgt := 28) dX4_wantsTrigger_21 (by decide) (by omega) (by omega) (fun c_21 => ?_) (fun c_21 => ?_)
    · refine C_iconst dX4_wantsTrigger_28 ?_
      refine C_zret dX4_wantsTrigger_29 rfl (by first | exact Or.inl rfl | exact Or.inr rfl | exact bz_01 _) ?_
      unfold det; rw [c_wantsTrigger, if_neg (by omega), if_neg (by omega)]; exact ⟨rfl, rfl⟩
    · refine C_iconst dX4_wantsTrigger_24 ?_
      refine C_goto (tgt := 29) dX4_wantsTrigger_25 (by decide) ?_
      refine C_zret dX4_wantsTrigger_29 rfl (by first | exact Or.inl rfl | exact Or.inr rfl | exact bz_01 _) ?_
      unfold det; rw [c_wantsTrigger, if_neg (by omega), if_pos (by omega)]; exact ⟨rfl, rfl⟩
def c_tadd (σ : cS) (t : Nat) (g : Int) (u : Int) (m : Int) : Int × cS := (if u = 0 then (((cadd (cadd (cadd (cadd σ (t + 1) g) (t + 3) 0) (t + 5) m) (t + 7) (σ.2.1 t 4)).1 (t + 1)).length, (cadd (cadd (cadd (cadd σ (t + 1) g) (t + 3) 0) (t + 5) m) (t + 7) (σ.2.1 t 4))) else (((cadd (cadd (cadd (cadd σ (t + 1) g) (t + 3) 1) (t + 5) m) (t + 7) (σ.2.1 t 4)).1 (t + 1)).length, (cadd (cadd (cadd (cadd σ (t + 1) g) (t + 3) 1) (t + 5) m) (t + 7) (σ.2.1 t 4))))
theorem t_tadd {l : Launch} {G : jG} {d : Nat} {σ : cS} {t : Nat} {g : Int} {u : Int} {m : Int} (hw : wf σ) (hd : 1 ≤ d) (ht : kd t = 4) (hg : -3000 ≤ g ∧ g < 100000000) (hu : 0 ≤ u ∧ u ≤ 1) (hm : -3000 ≤ m ∧ m < 100000000) : CJ jCls jown l G (Yx mX4_addSegment) d 0 0 0 [some (.ref t), some (vi g), some (vi u), some (vi m)] [] σ (det (some (vi (c_tadd σ t g u m).1)) (c_tadd σ t g u m).2) := by
  refine C_aload_n dX4_addSegment_0 rfl ?_
  refine C_get dX4_addSegment_1 f_X4_14 (fun h hc => ⟨_, hc.2.2.2.1 _ ht, rfl⟩) ?_
  refine C_iload_n dX4_addSegment_4 rfl ?_
  refine D_callV (As := [vi _]) (d' := 0) (row_add hw (kT1 ht) (by omega)) dX4_addSegment_5 v_X4_49 (fun h hc => ⟨_, (hc.1 _ (kT1 ht)).1⟩) rfl (Nat.le_of_ble_eq_true rfl) (by omega) (Nat.le_of_ble_eq_true rfl) ?_
  simp only [Option.toList, List.nil_append, List.cons_append]
  have hw1 : wf (cadd σ (t + 1) g) := wf_add hw (by omega)
  refine C_aload_n dX4_addSegment_8 rfl ?_
  refine C_get dX4_addSegment_9 f_X4_20 (fun h hc => ⟨_, hc.2.2.2.1 _ ht, rfl⟩) ?_
  refine C_iload_n dX4_addSegment_12 rfl ?_
  refine C_if_eq (tgt := 20) dX4_addSegment_13 (by decide) (by omega) (fun c_13 => ?_) (fun c_13 => ?_)
  · refine C_iconst dX4_addSegment_20 ?_
    refine D_callV (As := [vi _]) (d' := 0) (row_add hw1 (kT3 ht) (by omega)) dX4_addSegment_21 v_X4_49 (fun h hc => ⟨_, (hc.1 _ (kT3 ht)).1⟩) rfl (Nat.le_of_ble_eq_true rfl) (by omega) (Nat.le_of_ble_eq_true rfl) ?_
    simp only [Option.toList, List.nil_append, List.cons_append]
    have hw3 : wf (cadd (cadd σ (t + 1) g) (t + 3) 0) := wf_add hw1 (by omega)
    refine C_aload_n dX4_addSegment_24 rfl ?_
    refine C_get dX4_addSegment_25 f_X4_23 (fun h hc => ⟨_, hc.2.2.2.1 _ ht, rfl⟩) ?_
    refine C_iload_n dX4_addSegment_28 rfl ?_
    refine D_callV (As := [vi _]) (d' := 0) (row_add hw3 (kT5 ht) (by omega)) dX4_addSegment_29 v_X4_49 (fun h hc => ⟨_, (hc.1 _ (kT5 ht)).1⟩) rfl (Nat.le_of_ble_eq_true rfl) (by omega) (Nat.le_of_ble_eq_true rfl) ?_
    simp only [Option.toList, List.nil_append, List.cons_append]
    have hw4 : wf (cadd (cadd (cadd σ (t + 1) g) (t + 3) 0) (t + 5) m) := wf_add hw3 (by omega)
    refine C_aload_n dX4_addSegment_32 rfl ?_
    refine C_get dX4_addSegment_33 f_X4_26 (fun h hc => ⟨_, hc.2.2.2.1 _ ht, rfl⟩) ?_
    refine C_aload_n dX4_addSegment_36 rfl ?_
    refine C_get (v := vi (σ.2.1 t 4)) dX4_addSegment_37 f_X4_29 (fun h hc => ⟨_, hc.2.2.2.1 _ ht, congrArg (fun z => some (vi z)) (show ((cadd (cadd (cadd σ (t + 1) g) (t + 3) 0) (t + 5) m).2.1 t 4) = (σ.2.1 t 4) by simp [cI, upI, cadd, cput, cemp])⟩) ?_
    have g_37 := hw.2.2.1 t 4
    refine D_callV (As := [vi _]) (d' := 0) (row_add hw4 (kT7 ht) (by omega)) dX4_addSegment_40 v_X4_49 (fun h hc => ⟨_, (hc.1 _ (kT7 ht)).1⟩) rfl (Nat.le_of_ble_eq_true rfl) (by omega) (Nat.le_of_ble_eq_true rfl) ?_
    simp only [Option.toList, List.nil_append, List.cons_append]
    have hw5 : wf (cadd (cadd (cadd (cadd σ (t + 1) g) (t + 3) 0) (t + 5) m) (t + 7) (σ.2.1 t 4)) := wf_add hw4 (by omega)
    refine C_aload_n dX4_addSegment_43 rfl ?_
    refine C_get dX4_addSegment_44 f_X4_14 (fun h hc => ⟨_, hc.2.2.2.1 _ ht, rfl⟩) ?_
    refine D_callV (As := []) (d' := 0) (row_size hw5 (kT1 ht)) dX4_addSegment_47 v_X4_45 (fun h hc => ⟨_, (hc.1 _ (kT1 ht)).1⟩) rfl (Nat.le_of_ble_eq_true rfl) (by omega) (Nat.le_of_ble_eq_true rfl) ?_
    simp only [Option.toList, List.nil_append, List.cons_append]
    have r_47 := hw5.len (kT1 ht)
    refine C_iret dX4_addSegment_50 rfl ?_
    unfold det; rw [c_tadd, if_pos (by omega)]; exact ⟨rfl, rfl⟩
  · refine C_iconst dX4_addSegment_16 ?_
    refine C_goto (tgt := 21) dX4_addSegment_17 (by decide) ?_
    refine D_callV (As := [vi _]) (d' := 0) (row_add hw1 (kT3 ht) (by omega)) dX4_addSegment_21 v_X4_49 (fun h hc => ⟨_, (hc.1 _ (kT3 ht)).1⟩) rfl (Nat.le_of_ble_eq_true rfl) (by omega) (Nat.le_of_ble_eq_true rfl) ?_
    simp only [Option.toList, List.nil_append, List.cons_append]
    have hw6 : wf (cadd (cadd σ (t + 1) g) (t + 3) 1) := wf_add hw1 (by omega)
    refine C_aload_n dX4_addSegment_24 rfl ?_
    refine C_get dX4_addSegment_25 f_X4_23 (fun h hc => ⟨_, hc.2.2.2.1 _ ht, rfl⟩) ?_
    refine C_iload_n dX4_addSegment_28 rfl ?_
    refine D_callV (As := [vi _]) (d' := 0) (row_add hw6 (kT5 ht) (by omega)) dX4_addSegment_29 v_X4_49 (fun h hc => ⟨_, (hc.1 _ (kT5 ht)).1⟩) rfl (Nat.le_of_ble_eq_true rfl) (by omega) (Nat.le_of_ble_eq_true rfl) ?_
    simp only [Option.toList, List.nil_append, List.cons_append]
    have hw7 : wf (cadd (cadd (cadd σ (t + 1) g) (t + 3) 1) (t + 5) m) := wf_add hw6 (by omega)
    refine C_aload_n dX4_addSegment_32 rfl ?_
    refine C_get dX4_addSegment_33 f_X4_26 (fun h hc => ⟨_, hc.2.2.2.1 _ ht, rfl⟩) ?_
    refine C_aload_n dX4_addSegment_36 rfl ?_
    refine C_get (v := vi (σ.2.1 t 4)) dX4_addSegment_37 f_X4_29 (fun h hc => ⟨_, hc.2.2.2.1 _ ht, congrArg (fun z => some (vi z)) (show ((cadd (cadd (cadd σ (t + 1) g) (t + 3) 1) (t + 5) m).2.1 t 4) = (σ.2.1 t 4) by simp [cI, upI, cadd, cput, cemp])⟩) ?_
    have g_37 := hw.2.2.1 t 4
    refine D_callV (As := [vi _]) (d' := 0) (row_add hw7 (kT7 ht) (by omega)) dX4_addSegment_40 v_X4_49 (fun h hc => ⟨_, (hc.1 _ (kT7 ht)).1⟩) rfl (Nat.le_of_ble_eq_true rfl) (by omega) (Nat.le_of_ble_eq_true rfl) ?_
    simp only [Option.toList, List.nil_append, List.cons_append]
    have hw8 : wf (cadd (cadd (cadd (cadd σ (t + 1) g) (t + 3) 1) (t + 5) m) (t + 7) (σ.2.1 t 4)) := wf_add hw7 (by omega)
    refine C_aload_n dX4_addSegment_43 rfl ?_
    refine C_get dX4_addSegment_44 f_X4_14 (fun h hc => ⟨_, hc.2.2.2.1 _ ht, rfl⟩) ?_
    refine D_callV (As := []) (d' := 0) (row_size hw8 (kT1 ht)) dX4_addSegment_47 v_X4_45 (fun h hc => ⟨_, (hc.1 _ (kT1 ht)).1⟩) rfl (Nat.le_of_ble_eq_true rfl) (by omega) (Nat.le_of_ble_eq_true rfl) ?_
    simp only [Option.toList, List.nil_append, List.cons_append]
    have r_47 := hw8.len (kT1 ht)
    refine C_iret dX4_addSegment_50 rfl ?_
    unfold det; rw [c_tadd, if_neg (by omega)]; exact ⟨rfl, rfl⟩
theorem r_tadd {σ : cS} {t : Nat} {g : Int} {u : Int} {m : Int} (hw : wf σ) (ht : kd t = 4) (hg : -3000 ≤ g ∧ g < 100000000) (hu : 0 ≤ u ∧ u ≤ 1) (hm : -3000 ≤ m ∧ m < 100000000) : 0 ≤ (c_tadd σ t g u m).1 ∧ (c_tadd σ t g u m).1 < 2001 := by
  unfold c_tadd
  split
  · have hw1 : wf (cadd σ (t + 1) g) := wf_add hw (by omega)
    have hw3 : wf (cadd (cadd σ (t + 1) g) (t + 3) 0) := wf_add hw1 (by omega)
    have hw4 : wf (cadd (cadd (cadd σ (t + 1) g) (t + 3) 0) (t + 5) m) := wf_add hw3 (by omega)
    have g_37 := hw.2.2.1 t 4
    have hw5 : wf (cadd (cadd (cadd (cadd σ (t + 1) g) (t + 3) 0) (t + 5) m) (t + 7) (σ.2.1 t 4)) := wf_add hw4 (by omega)
    have r_47 := hw5.len (kT1 ht)
    omega
  · have hw1 : wf (cadd σ (t + 1) g) := wf_add hw (by omega)
    have hw6 : wf (cadd (cadd σ (t + 1) g) (t + 3) 1) := wf_add hw1 (by omega)
    have hw7 : wf (cadd (cadd (cadd σ (t + 1) g) (t + 3) 1) (t + 5) m) := wf_add hw6 (by omega)
    have g_37 := hw.2.2.1 t 4
    have hw8 : wf (cadd (cadd (cadd (cadd σ (t + 1) g) (t + 3) 1) (t + 5) m) (t + 7) (σ.2.1 t 4)) := wf_add hw7 (by omega)
    have r_47 := hw8.len (kT1 ht)
    omega
theorem w_tadd {σ : cS} {t : Nat} {g : Int} {u : Int} {m : Int} (hw : wf σ) (ht : kd t = 4) (hg : -3000 ≤ g ∧ g < 100000000) (hu : 0 ≤ u ∧ u ≤ 1) (hm : -3000 ≤ m ∧ m < 100000000) : wf (c_tadd σ t g u m).2 := by
  unfold c_tadd
  split
  · have hw1 : wf (cadd σ (t + 1) g) := wf_add hw (by omega)
    have hw3 : wf (cadd (cadd σ (t + 1) g) (t + 3) 0) := wf_add hw1 (by omega)
    have hw4 : wf (cadd (cadd (cadd σ (t + 1) g) (t + 3) 0) (t + 5) m) := wf_add hw3 (by omega)
    have g_37 := hw.2.2.1 t 4
    have hw5 : wf (cadd (cadd (cadd (cadd σ (t + 1) g) (t + 3) 0) (t + 5) m) (t + 7) (σ.2.1 t 4)) := wf_add hw4 (by omega)
    have r_47 := hw5.len (kT1 ht)
    exact hw5
  · have hw1 : wf (cadd σ (t + 1) g) := wf_add hw (by omega)
    have hw6 : wf (cadd (cadd σ (t + 1) g) (t + 3) 1) := wf_add hw1 (by omega)
    have hw7 : wf (cadd (cadd (cadd σ (t + 1) g) (t + 3) 1) (t + 5) m) := wf_add hw6 (by omega)
    have g_37 := hw.2.2.1 t 4
    have hw8 : wf (cadd (cadd (cadd (cadd σ (t + 1) g) (t + 3) 1) (t + 5) m) (t + 7) (σ.2.1 t 4)) := wf_add hw7 (by omega)
    have r_47 := hw8.len (kT1 ht)
    exact hw8
theorem i_tadd {σ : cS} {t : Nat} {g : Int} {u : Int} {m : Int} : (c_tadd σ t g u m).2.2 = σ.2 := by
  unfold c_tadd
  (repeat' split) <;> simp [cadd, cput, cemp, i_addCharacter, i_addComponent, i_addElement, i_addSegment, i_finish, i_pempty]
def c_addGroup (σ : cS) (t : Nat) (u : Int) (m : Int) : Int × cS := ((c_tadd σ t 0 u m).1, (cI (cI (c_tadd σ t 0 u m).2 t 4 ((c_tadd σ t 0 u m).1 - 1)) t 5 ((σ.2.1 t 5) + 1)))
theorem t_addGroup {l : Launch} {G : jG} {d : Nat} {σ : cS} {t : Nat} {u : Int} {m : Int} (hw : wf σ) (hd : 2 ≤ d) (ht : kd t = 4) (hu : 0 ≤ u ∧ u ≤ 1) (hm : -3000 ≤ m ∧ m < 100000000) (hdp : σ.2.1 t 5 < 99999999) : CJ jCls jown l G (Yx mX4_addGroup) d 0 0 0 [some (.ref t), some (vi u), some (vi m), none] [] σ (det (some (vi (c_addGroup σ t u m).1)) (c_addGroup σ t u m).2) := by
  refine C_aload_n dX4_addGroup_0 rfl ?_
  refine C_iconst dX4_addGroup_1 ?_
  refine C_iload_n dX4_addGroup_2 rfl ?_
  refine C_iload_n dX4_addGroup_3 rfl ?_
  refine D_callV (As := [vi _, vi _, vi _]) (d' := 1) (t_tadd hw (Nat.le_refl _) ht (by omega) (by omega) (by omega)) dX4_addGroup_4 v_X4_52 (fun h hc => ⟨_, hc.2.2.2.1 _ ht⟩) rfl (Nat.le_of_ble_eq_true rfl) (by omega) (Nat.le_of_ble_eq_true rfl) ?_
  simp only [Option.toList, List.nil_append, List.cons_append]
  have hw1 : wf (c_tadd σ t 0 u m).2 := w_tadd hw ht (by omega) (by omega) (by omega)
  have r_4 := r_tadd (t := t) (g := 0) (u := u) (m := m) hw ht (by omega) (by omega) (by omega)
  refine C_istore_n dX4_addGroup_7 (by decide) rfl ?_
  simp only [List.set_cons_zero, List.set_cons_succ, jfin0, jfin1, jfin2, jfin3]
  refine C_aload_n dX4_addGroup_8 rfl ?_
  refine C_iload_n dX4_addGroup_9 rfl ?_
  refine C_iconst dX4_addGroup_10 ?_
  refine C_isub dX4_addGroup_11 ?_
  refine C_put (σ' := (cI (c_tadd σ t 0 u m).2 t 4 ((c_tadd σ t 0 u m).1 - 1))) dX4_addGroup_12 f_X4_29 jfit_i (ownT ht) (fun h hc => hc.putT4 ht) ?_
  have hw2 : wf (cI (c_tadd σ t 0 u m).2 t 4 ((c_tadd σ t 0 u m).1 - 1)) := wf_I hw1 (by omega)
  refine C_aload_n dX4_addGroup_15 rfl ?_
  refine C_dup dX4_addGroup_16 rfl ?_
  refine C_get (v := vi (σ.2.1 t 5)) dX4_addGroup_17 f_X4_33 (fun h hc => ⟨_, hc.2.2.2.1 _ ht, congrArg (fun z => some (vi z)) (show ((cI (c_tadd σ t 0 u m).2 t 4 ((c_tadd σ t 0 u m).1 - 1)).2.1 t 5) = (σ.2.1 t 5) by simp [cI, upI, cadd, cput, cemp, i_tadd])⟩) ?_
  have g_17 := hw.2.2.1 t 5
  refine C_iconst dX4_addGroup_20 ?_
  refine C_iadd dX4_addGroup_21 ?_
  refine C_put (σ' := (cI (cI (c_tadd σ t 0 u m).2 t 4 ((c_tadd σ t 0 u m).1 - 1)) t 5 ((σ.2.1 t 5) + 1))) dX4_addGroup_22 f_X4_33 jfit_i (ownT ht) (fun h hc => hc.putT5 ht) ?_
  have hw3 : wf (cI (cI (c_tadd σ t 0 u m).2 t 4 ((c_tadd σ t 0 u m).1 - 1)) t 5 ((σ.2.1 t 5) + 1)) := wf_I hw2 (by omega)
  refine C_iload_n dX4_addGroup_25 rfl ?_
  refine C_iret dX4_addGroup_26 rfl ?_
  unfold det; rw [c_addGroup]; exact ⟨rfl, rfl⟩
theorem r_addGroup {σ : cS} {t : Nat} {u : Int} {m : Int} (hw : wf σ) (ht : kd t = 4) (hu : 0 ≤ u ∧ u ≤ 1) (hm : -3000 ≤ m ∧ m < 100000000) (hdp : σ.2.1 t 5 < 99999999) : 0 ≤ (c_addGroup σ t u m).1 ∧ (c_addGroup σ t u m).1 < 2001 := by
  unfold c_addGroup
  have hw1 : wf (c_tadd σ t 0 u m).2 := w_tadd hw ht (by omega) (by omega) (by omega)
  have r_4 := r_tadd (t := t) (g := 0) (u := u) (m := m) hw ht (by omega) (by omega) (by omega)
  have hw2 : wf (cI (c_tadd σ t 0 u m).2 t 4 ((c_tadd σ t 0 u m).1 - 1)) := wf_I hw1 (by omega)
  have g_17 := hw.2.2.1 t 5
  have hw3 : wf (cI (cI (c_tadd σ t 0 u m).2 t 4 ((c_tadd σ t 0 u m).1 - 1)) t 5 ((σ.2.1 t 5) + 1)) := wf_I hw2 (by omega)
  omega
theorem w_addGroup {σ : cS} {t : Nat} {u : Int} {m : Int} (hw : wf σ) (ht : kd t = 4) (hu : 0 ≤ u ∧ u ≤ 1) (hm : -3000 ≤ m ∧ m < 100000000) (hdp : σ.2.1 t 5 < 99999999) : wf (c_addGroup σ t u m).2 := by
  unfold c_addGroup
  have hw1 : wf (c_tadd σ t 0 u m).2 := w_tadd hw ht (by omega) (by omega) (by omega)
  have r_4 := r_tadd (t := t) (g := 0) (u := u) (m := m) hw ht (by omega) (by omega) (by omega)
  have hw2 : wf (cI (c_tadd σ t 0 u m).2 t 4 ((c_tadd σ t 0 u m).1 - 1)) := wf_I hw1 (by omega)
  have g_17 := hw.2.2.1 t 5
  have hw3 : wf (cI (cI (c_tadd σ t 0 u m).2 t 4 ((c_tadd σ t 0 u m).1 - 1)) t 5 ((σ.2.1 t 5) + 1)) := wf_I hw2 (by omega)
  exact hw3
def c_closeList (σ : cS) (t : Nat) : Bool × cS := (if (σ.2.1 t 4) = (-1) then (false, σ) else (if (c_wantsTrigger σ t) = true then (false, σ) else (true, (cI (cI σ t 4 (rat (σ.1 (t + 7)) (σ.2.1 t 4))) t 5 ((σ.2.1 t 5) - 1)))))
theorem t_closeList {l : Launch} {G : jG} {d : Nat} {σ : cS} {t : Nat} (hw : wf σ) (hd : 2 ≤ d) (ht : kd t = 4) (hdp : 0 ≤ σ.2.1 t 5) : CJ jCls jown l G (Yx mX4_closeList) d 0 0 0 [some (.ref t)] [] σ (det (some (vi (bz (c_closeList σ t).1))) (c_closeList σ t).2) := by
  refine C_aload_n dX4_closeList_0 rfl ?_
  refine C_get dX4_closeList_1 f_X4_29 (fun h hc => ⟨_, hc.2.2.2.1 _ ht, rfl⟩) ?_
  have g_1 := hw.2.2.1 t 4
  refine C_iconst dX4_closeList_4 ?_
  refine C_icmp_eq (tgt := 15) dX4_closeList_5 (by decide) (by omega) (by omega) (fun c_5 => ?_) (fun c_5 => ?_)
  · refine C_iconst dX4_closeList_15 ?_
    refine C_zret dX4_closeList_16 rfl (by first | exact Or.inl rfl | exact Or.inr rfl | exact bz_01 _) ?_
    unfold det; rw [c_closeList, if_pos (by omega)]; exact ⟨rfl, rfl⟩
  · refine C_aload_n dX4_closeList_8 rfl ?_
    refine D_callV (As := []) (d' := 1) (t_wantsTrigger hw (Nat.le_refl _) ht) dX4_closeList_9 v_X4_56 (fun h hc => ⟨_, hc.2.2.2.1 _ ht⟩) rfl (Nat.le_of_ble_eq_true rfl) (by omega) (Nat.le_of_ble_eq_true rfl) ?_
    simp only [Option.toList, List.nil_append, List.cons_append]
    refine C_if_eqZ (tgt := 17) dX4_closeList_12 (by decide) (fun c_12 => ?_) (fun c_12 => ?_)
    · refine C_aload_n dX4_closeList_17 rfl ?_
      refine C_aload_n dX4_closeList_18 rfl ?_
      refine C_get dX4_closeList_19 f_X4_26 (fun h hc => ⟨_, hc.2.2.2.1 _ ht, rfl⟩) ?_
      refine C_aload_n dX4_closeList_22 rfl ?_
      refine C_get dX4_closeList_23 f_X4_29 (fun h hc => ⟨_, hc.2.2.2.1 _ ht, rfl⟩) ?_
      have g_23 := hw.2.2.1 t 4
      refine D_callV (As := [vi _]) (d' := 0) (row_at hw (kT7 ht) (by omega)) dX4_closeList_26 v_X4_60 (fun h hc => ⟨_, (hc.1 _ (kT7 ht)).1⟩) rfl (Nat.le_of_ble_eq_true rfl) (by omega) (Nat.le_of_ble_eq_true rfl) ?_
      simp only [Option.toList, List.nil_append, List.cons_append]
      have r_26 := hw.ra2 (kT7 ht) (σ.2.1 t 4)
      refine C_put (σ' := (cI σ t 4 (rat (σ.1 (t + 7)) (σ.2.1 t 4)))) dX4_closeList_29 f_X4_29 jfit_i (ownT ht) (fun h hc => hc.putT4 ht) ?_
      have hw3 : wf (cI σ t 4 (rat (σ.1 (t + 7)) (σ.2.1 t 4))) := wf_I hw (by omega)
      refine C_aload_n dX4_closeList_32 rfl ?_
      refine C_dup dX4_closeList_33 rfl ?_
      refine C_get (v := vi (σ.2.1 t 5)) dX4_closeList_34 f_X4_33 (fun h hc => ⟨_, hc.2.2.2.1 _ ht, congrArg (fun z => some (vi z)) (show ((cI σ t 4 (rat (σ.1 (t + 7)) (σ.2.1 t 4))).2.1 t 5) = (σ.2.1 t 5) by simp [cI, upI, cadd, cput, cemp])⟩) ?_
      have g_34 := hw.2.2.1 t 5
      refine C_iconst dX4_closeList_37 ?_
      refine C_isub dX4_closeList_38 ?_
      refine C_put (σ' := (cI (cI σ t 4 (rat (σ.1 (t + 7)) (σ.2.1 t 4))) t 5 ((σ.2.1 t 5) - 1))) dX4_closeList_39 f_X4_33 jfit_i (ownT ht) (fun h hc => hc.putT5 ht) ?_
      have hw4 : wf (cI (cI σ t 4 (rat (σ.1 (t + 7)) (σ.2.1 t 4))) t 5 ((σ.2.1 t 5) - 1)) := wf_I hw3 (by omega)
      refine C_iconst dX4_closeList_42 ?_
      refine C_zret dX4_closeList_43 rfl (by first | exact Or.inl rfl | exact Or.inr rfl | exact bz_01 _) ?_
      unfold det; rw [c_closeList, if_neg (by omega), if_neg (by rw [c_12]; decide)]; exact ⟨rfl, rfl⟩
    · refine C_iconst dX4_closeList_15 ?_
      refine C_zret dX4_closeList_16 rfl (by first | exact Or.inl rfl | exact Or.inr rfl | exact bz_01 _) ?_
      unfold det; rw [c_closeList, if_neg (by omega), if_pos c_12]; exact ⟨rfl, rfl⟩
theorem w_closeList {σ : cS} {t : Nat} (hw : wf σ) (ht : kd t = 4) (hdp : 0 ≤ σ.2.1 t 5) : wf (c_closeList σ t).2 := by
  unfold c_closeList
  split
  · have g_1 := hw.2.2.1 t 4
    exact hw
  · split
    · have g_1 := hw.2.2.1 t 4
      exact hw
    · have g_1 := hw.2.2.1 t 4
      have g_23 := hw.2.2.1 t 4
      have r_26 := hw.ra2 (kT7 ht) (σ.2.1 t 4)
      have hw3 : wf (cI σ t 4 (rat (σ.1 (t + 7)) (σ.2.1 t 4))) := wf_I hw (by omega)
      have g_34 := hw.2.2.1 t 5
      have hw4 : wf (cI (cI σ t 4 (rat (σ.1 (t + 7)) (σ.2.1 t 4))) t 5 ((σ.2.1 t 5) - 1)) := wf_I hw3 (by omega)
      exact hw4
def c_tempty (σ : cS) (t : Nat) : cS := (cI (cI (cemp (cemp (cemp (cemp σ (t + 1)) (t + 3)) (t + 5)) (t + 7)) t 4 (-1)) t 5 0)
theorem t_tempty {l : Launch} {G : jG} {d : Nat} {σ : cS} {t : Nat} (hw : wf σ) (hd : 1 ≤ d) (ht : kd t = 4) : CJ jCls jown l G (Yx mX4_empty) d 0 0 0 [some (.ref t)] [] σ (det none (c_tempty σ t)) := by
  refine C_aload_n dX4_empty_0 rfl ?_
  refine C_get dX4_empty_1 f_X4_14 (fun h hc => ⟨_, hc.2.2.2.1 _ ht, rfl⟩) ?_
  refine D_callV (As := []) (d' := 0) (row_empty hw (kT1 ht)) dX4_empty_4 v_X4_64 (fun h hc => ⟨_, (hc.1 _ (kT1 ht)).1⟩) rfl (Nat.le_of_ble_eq_true rfl) (by omega) (Nat.le_of_ble_eq_true rfl) ?_
  simp only [Option.toList, List.nil_append, List.cons_append]
  have hw1 : wf (cemp σ (t + 1)) := wf_emp hw
  refine C_aload_n dX4_empty_7 rfl ?_
  refine C_get dX4_empty_8 f_X4_20 (fun h hc => ⟨_, hc.2.2.2.1 _ ht, rfl⟩) ?_
  refine D_callV (As := []) (d' := 0) (row_empty hw1 (kT3 ht)) dX4_empty_11 v_X4_64 (fun h hc => ⟨_, (hc.1 _ (kT3 ht)).1⟩) rfl (Nat.le_of_ble_eq_true rfl) (by omega) (Nat.le_of_ble_eq_true rfl) ?_
  simp only [Option.toList, List.nil_append, List.cons_append]
  have hw2 : wf (cemp (cemp σ (t + 1)) (t + 3)) := wf_emp hw1
  refine C_aload_n dX4_empty_14 rfl ?_
  refine C_get dX4_empty_15 f_X4_23 (fun h hc => ⟨_, hc.2.2.2.1 _ ht, rfl⟩) ?_
  refine D_callV (As := []) (d' := 0) (row_empty hw2 (kT5 ht)) dX4_empty_18 v_X4_64 (fun h hc => ⟨_, (hc.1 _ (kT5 ht)).1⟩) rfl (Nat.le_of_ble_eq_true rfl) (by omega) (Nat.le_of_ble_eq_true rfl) ?_
  simp only [Option.toList, List.nil_append, List.cons_append]
  have hw3 : wf (cemp (cemp (cemp σ (t + 1)) (t + 3)) (t + 5)) := wf_emp hw2
  refine C_aload_n dX4_empty_21 rfl ?_
  refine C_get dX4_empty_22 f_X4_26 (fun h hc => ⟨_, hc.2.2.2.1 _ ht, rfl⟩) ?_
  refine D_callV (As := []) (d' := 0) (row_empty hw3 (kT7 ht)) dX4_empty_25 v_X4_64 (fun h hc => ⟨_, (hc.1 _ (kT7 ht)).1⟩) rfl (Nat.le_of_ble_eq_true rfl) (by omega) (Nat.le_of_ble_eq_true rfl) ?_
  simp only [Option.toList, List.nil_append, List.cons_append]
  have hw4 : wf (cemp (cemp (cemp (cemp σ (t + 1)) (t + 3)) (t + 5)) (t + 7)) := wf_emp hw3
  refine C_aload_n dX4_empty_28 rfl ?_
  refine C_iconst dX4_empty_29 ?_
  refine C_put (σ' := (cI (cemp (cemp (cemp (cemp σ (t + 1)) (t + 3)) (t + 5)) (t + 7)) t 4 (-1))) dX4_empty_30 f_X4_29 jfit_i (ownT ht) (fun h hc => hc.putT4 ht) ?_
  have hw5 : wf (cI (cemp (cemp (cemp (cemp σ (t + 1)) (t + 3)) (t + 5)) (t + 7)) t 4 (-1)) := wf_I hw4 (by omega)
  refine C_aload_n dX4_empty_33 rfl ?_
  refine C_iconst dX4_empty_34 ?_
  refine C_put (σ' := (cI (cI (cemp (cemp (cemp (cemp σ (t + 1)) (t + 3)) (t + 5)) (t + 7)) t 4 (-1)) t 5 0)) dX4_empty_35 f_X4_33 jfit_i (ownT ht) (fun h hc => hc.putT5 ht) ?_
  have hw6 : wf (cI (cI (cemp (cemp (cemp (cemp σ (t + 1)) (t + 3)) (t + 5)) (t + 7)) t 4 (-1)) t 5 0) := wf_I hw5 (by omega)
  refine C_vret dX4_empty_38 rfl ⟨rfl, ?_⟩
  rw [c_tempty]
theorem w_tempty {σ : cS} {t : Nat} (hw : wf σ) (ht : kd t = 4) : wf (c_tempty σ t) := by
  unfold c_tempty
  have hw1 : wf (cemp σ (t + 1)) := wf_emp hw
  have hw2 : wf (cemp (cemp σ (t + 1)) (t + 3)) := wf_emp hw1
  have hw3 : wf (cemp (cemp (cemp σ (t + 1)) (t + 3)) (t + 5)) := wf_emp hw2
  have hw4 : wf (cemp (cemp (cemp (cemp σ (t + 1)) (t + 3)) (t + 5)) (t + 7)) := wf_emp hw3
  have hw5 : wf (cI (cemp (cemp (cemp (cemp σ (t + 1)) (t + 3)) (t + 5)) (t + 7)) t 4 (-1)) := wf_I hw4 (by omega)
  have hw6 : wf (cI (cI (cemp (cemp (cemp (cemp σ (t + 1)) (t + 3)) (t + 5)) (t + 7)) t 4 (-1)) t 5 0) := wf_I hw5 (by omega)
  exact hw6
def c_standAtItem (σ : cS) (t : Nat) : Bool × cS := (if (σ.2.1 t 8) = (-1) then (if (σ.2.1 t 7) = (-1) then (false, σ) else (true, (cI (cI σ t 8 (σ.2.1 t 7)) t 7 (rat ((cI σ t 8 (σ.2.1 t 7)).1 (t + 7)) (σ.2.1 t 7))))) else (true, σ))
theorem t_standAtItem {l : Launch} {G : jG} {d : Nat} {σ : cS} {t : Nat} (hw : wf σ) (hd : 1 ≤ d) (ht : kd t = 4) : CJ jCls jown l G (Yx mX4_standAtItem) d 0 0 0 [some (.ref t)] [] σ (det (some (vi (bz (c_standAtItem σ t).1))) (c_standAtItem σ t).2) := by
  refine C_aload_n dX4_standAtItem_0 rfl ?_
  refine C_get dX4_standAtItem_1 f_X4_42 (fun h hc => ⟨_, hc.2.2.2.1 _ ht, rfl⟩) ?_
  have g_1 := hw.2.2.1 t 8
  refine C_iconst dX4_standAtItem_4 ?_
  refine C_icmp_ne (tgt := 39) dX4_standAtItem_5 (by decide) (by omega) (by omega) (fun c_5 => ?_) (fun c_5 => ?_)
  · refine C_aload_n dX4_standAtItem_39 rfl ?_
    refine C_get dX4_standAtItem_40 f_X4_42 (fun h hc => ⟨_, hc.2.2.2.1 _ ht, rfl⟩) ?_
    have g_40 := hw.2.2.1 t 8
    refine C_iconst dX4_standAtItem_43 ?_
    refine C_icmp_eq (tgt := 51) dX4_standAtItem_44 (by decide) (by omega) (by omega) (fun c_44 => absurd c_44 (by omega)) (fun c_44 => ?_)
    refine C_iconst dX4_standAtItem_47 ?_
    refine C_goto (tgt := 52) dX4_standAtItem_48 (by decide) ?_
    refine C_zret dX4_standAtItem_52 rfl (by first | exact Or.inl rfl | exact Or.inr rfl | exact bz_01 _) ?_
    unfold det; rw [c_standAtItem, if_neg (by omega)]; exact ⟨rfl, rfl⟩
  · refine C_aload_n dX4_standAtItem_8 rfl ?_
    refine C_get dX4_standAtItem_9 f_X4_39 (fun h hc => ⟨_, hc.2.2.2.1 _ ht, rfl⟩) ?_
    have g_9 := hw.2.2.1 t 7
    refine C_iconst dX4_standAtItem_12 ?_
    refine C_icmp_eq (tgt := 39) dX4_standAtItem_13 (by decide) (by omega) (by omega) (fun c_13 => ?_) (fun c_13 => ?_)
    · refine C_aload_n dX4_standAtItem_39 rfl ?_
      refine C_get dX4_standAtItem_40 f_X4_42 (fun h hc => ⟨_, hc.2.2.2.1 _ ht, rfl⟩) ?_
      have g_40 := hw.2.2.1 t 8
      refine C_iconst dX4_standAtItem_43 ?_
      refine C_icmp_eq (tgt := 51) dX4_standAtItem_44 (by decide) (by omega) (by omega) (fun c_44 => ?_) (fun c_44 => absurd c_44 (by omega))
      refine C_iconst dX4_standAtItem_51 ?_
      refine C_zret dX4_standAtItem_52 rfl (by first | exact Or.inl rfl | exact Or.inr rfl | exact bz_01 _) ?_
      unfold det; rw [c_standAtItem, if_pos (by omega), if_pos (by omega)]; exact ⟨rfl, rfl⟩
    · refine C_aload_n dX4_standAtItem_16 rfl ?_
      refine C_aload_n dX4_standAtItem_17 rfl ?_
      refine C_get dX4_standAtItem_18 f_X4_39 (fun h hc => ⟨_, hc.2.2.2.1 _ ht, rfl⟩) ?_
      have g_18 := hw.2.2.1 t 7
      refine C_put (σ' := (cI σ t 8 (σ.2.1 t 7))) dX4_standAtItem_21 f_X4_42 jfit_i (ownT ht) (fun h hc => hc.putT8 ht) ?_
      have hw5 : wf (cI σ t 8 (σ.2.1 t 7)) := wf_I hw (by omega)
      refine C_aload_n dX4_standAtItem_24 rfl ?_
      refine C_aload_n dX4_standAtItem_25 rfl ?_
      refine C_get dX4_standAtItem_26 f_X4_26 (fun h hc => ⟨_, hc.2.2.2.1 _ ht, rfl⟩) ?_
      refine C_aload_n dX4_standAtItem_29 rfl ?_
      refine C_get (v := vi (σ.2.1 t 7)) dX4_standAtItem_30 f_X4_42 (fun h hc => ⟨_, hc.2.2.2.1 _ ht, congrArg (fun z => some (vi z)) (show ((cI σ t 8 (σ.2.1 t 7)).2.1 t 8) = (σ.2.1 t 7) by simp [cI, upI, cadd, cput, cemp])⟩) ?_
      have g_30 := hw.2.2.1 t 8
      refine D_callV (As := [vi _]) (d' := 0) (row_at hw5 (kT7 ht) (by omega)) dX4_standAtItem_33 v_X4_60 (fun h hc => ⟨_, (hc.1 _ (kT7 ht)).1⟩) rfl (Nat.le_of_ble_eq_true rfl) (by omega) (Nat.le_of_ble_eq_true rfl) ?_
      simp only [Option.toList, List.nil_append, List.cons_append]
      have r_33 := hw5.ra2 (kT7 ht) (σ.2.1 t 7)
      refine C_put (σ' := (cI (cI σ t 8 (σ.2.1 t 7)) t 7 (rat ((cI σ t 8 (σ.2.1 t 7)).1 (t + 7)) (σ.2.1 t 7)))) dX4_standAtItem_36 f_X4_39 jfit_i (ownT ht) (fun h hc => hc.putT7 ht) ?_
      have hw6 : wf (cI (cI σ t 8 (σ.2.1 t 7)) t 7 (rat ((cI σ t 8 (σ.2.1 t 7)).1 (t + 7)) (σ.2.1 t 7))) := wf_I hw5 (by omega)
      refine C_aload_n dX4_standAtItem_39 rfl ?_
      refine C_get (v := vi (σ.2.1 t 7)) dX4_standAtItem_40 f_X4_42 (fun h hc => ⟨_, hc.2.2.2.1 _ ht, congrArg (fun z => some (vi z)) (show ((cI (cI σ t 8 (σ.2.1 t 7)) t 7 (rat ((cI σ t 8 (σ.2.1 t 7)).1 (t + 7)) (σ.2.1 t 7))).2.1 t 8) = (σ.2.1 t 7) by simp [cI, upI, cadd, cput, cemp])⟩) ?_
      have g_40 := hw.2.2.1 t 8
      refine C_iconst dX4_standAtItem_43 ?_
      refine C_icmp_eq (tgt := 51) dX4_standAtItem_44 (by decide) (by omega) (by omega) (fun c_44 => absurd c_44 (by omega)) (fun c_44 => ?_)
      refine C_iconst dX4_standAtItem_47 ?_
      refine C_goto (tgt := 52) dX4_standAtItem_48 (by decide) ?_
      refine C_zret dX4_standAtItem_52 rfl (by first | exact Or.inl rfl | exact Or.inr rfl | exact bz_01 _) ?_
      unfold det; rw [c_standAtItem, if_pos (by omega), if_neg (by omega)]; exact ⟨rfl, rfl⟩
theorem w_standAtItem {σ : cS} {t : Nat} (hw : wf σ) (ht : kd t = 4) : wf (c_standAtItem σ t).2 := by
  unfold c_standAtItem
  split
  · split
    · have g_1 := hw.2.2.1 t 8
      have g_9 := hw.2.2.1 t 7
      have g_40 := hw.2.2.1 t 8
      exact hw
    · have g_1 := hw.2.2.1 t 8
      have g_9 := hw.2.2.1 t 7
      have g_18 := hw.2.2.1 t 7
      have hw5 : wf (cI σ t 8 (σ.2.1 t 7)) := wf_I hw (by omega)
      have g_30 := hw.2.2.1 t 8
      have r_33 := hw5.ra2 (kT7 ht) (σ.2.1 t 7)
      have hw6 : wf (cI (cI σ t 8 (σ.2.1 t 7)) t 7 (rat ((cI σ t 8 (σ.2.1 t 7)).1 (t + 7)) (σ.2.1 t 7))) := wf_I hw5 (by omega)
      have g_40 := hw.2.2.1 t 8
      exact hw6
  · have g_1 := hw.2.2.1 t 8
    have g_40 := hw.2.2.1 t 8
    exact hw
def c_firstTag (σ : cS) (t : Nat) : Int := (if (rat (σ.1 (t + 1)) (σ.2.1 t 8)) = 0 then (if (rat (σ.1 (t + 7)) ((σ.2.1 t 8) + 1)) = (σ.2.1 t 8) then (rat (σ.1 (t + 1)) ((σ.2.1 t 8) + 1)) else (-1)) else (rat (σ.1 (t + 1)) (σ.2.1 t 8)))
theorem t_firstTag {l : Launch} {G : jG} {d : Nat} {σ : cS} {t : Nat} (hw : wf σ) (hd : 1 ≤ d) (ht : kd t = 4) : CJ jCls jown l G (Yx mX4_firstTag) d 0 0 0 [some (.ref t)] [] σ (det (some (vi (c_firstTag σ t))) σ) := by
  refine C_aload_n dX4_firstTag_0 rfl ?_
  refine C_get dX4_firstTag_1 f_X4_14 (fun h hc => ⟨_, hc.2.2.2.1 _ ht, rfl⟩) ?_
  refine C_aload_n dX4_firstTag_4 rfl ?_
  refine C_get dX4_firstTag_5 f_X4_42 (fun h hc => ⟨_, hc.2.2.2.1 _ ht, rfl⟩) ?_
  have g_5 := hw.2.2.1 t 8
  refine D_callV (As := [vi _]) (d' := 0) (row_at hw (kT1 ht) (by omega)) dX4_firstTag_8 v_X4_60 (fun h hc => ⟨_, (hc.1 _ (kT1 ht)).1⟩) rfl (Nat.le_of_ble_eq_true rfl) (by omega) (Nat.le_of_ble_eq_true rfl) ?_
  simp only [Option.toList, List.nil_append, List.cons_append]
  have r_8 := hw.ra2 (kT1 ht) (σ.2.1 t 8)
  refine C_if_eq (tgt := 26) dX4_firstTag_11 (by decide) (by omega) (fun c_11 => ?_) (fun c_11 => ?_)
  · refine C_aload_n dX4_firstTag_26 rfl ?_
    refine C_get dX4_firstTag_27 f_X4_26 (fun h hc => ⟨_, hc.2.2.2.1 _ ht, rfl⟩) ?_
    refine C_aload_n dX4_firstTag_30 rfl ?_
    refine C_get dX4_firstTag_31 f_X4_42 (fun h hc => ⟨_, hc.2.2.2.1 _ ht, rfl⟩) ?_
    have g_31 := hw.2.2.1 t 8
    refine C_iconst dX4_firstTag_34 ?_
    refine C_iadd dX4_firstTag_35 ?_
    refine D_callV (As := [vi _]) (d' := 0) (row_at hw (kT7 ht) (by omega)) dX4_firstTag_36 v_X4_60 (fun h hc => ⟨_, (hc.1 _ (kT7 ht)).1⟩) rfl (Nat.le_of_ble_eq_true rfl) (by omega) (Nat.le_of_ble_eq_true rfl) ?_
    simp only [Option.toList, List.nil_append, List.cons_append]
    have r_36 := hw.ra2 (kT7 ht) ((σ.2.1 t 8) + 1)
    refine C_aload_n dX4_firstTag_39 rfl ?_
    refine C_get dX4_firstTag_40 f_X4_42 (fun h hc => ⟨_, hc.2.2.2.1 _ ht, rfl⟩) ?_
    have g_40 := hw.2.2.1 t 8
    refine C_icmp_ne (tgt := 62) dX4_firstTag_43 (by decide) (by omega) (by omega) (fun c_43 => ?_) (fun c_43 => ?_)
    · refine C_iconst dX4_firstTag_62 ?_
      refine C_iret dX4_firstTag_63 rfl ?_
      unfold det; rw [c_firstTag, if_pos (by omega), if_neg (by omega)]; exact ⟨rfl, rfl⟩
    · refine C_aload_n dX4_firstTag_46 rfl ?_
      refine C_get dX4_firstTag_47 f_X4_14 (fun h hc => ⟨_, hc.2.2.2.1 _ ht, rfl⟩) ?_
      refine C_aload_n dX4_firstTag_50 rfl ?_
      refine C_get dX4_firstTag_51 f_X4_42 (fun h hc => ⟨_, hc.2.2.2.1 _ ht, rfl⟩) ?_
      have g_51 := hw.2.2.1 t 8
      refine C_iconst dX4_firstTag_54 ?_
      refine C_iadd dX4_firstTag_55 ?_
      refine D_callV (As := [vi _]) (d' := 0) (row_at hw (kT1 ht) (by omega)) dX4_firstTag_56 v_X4_60 (fun h hc => ⟨_, (hc.1 _ (kT1 ht)).1⟩) rfl (Nat.le_of_ble_eq_true rfl) (by omega) (Nat.le_of_ble_eq_true rfl) ?_
      simp only [Option.toList, List.nil_append, List.cons_append]
      have r_56 := hw.ra2 (kT1 ht) ((σ.2.1 t 8) + 1)
      refine C_goto (tgt := 63) dX4_firstTag_59 (by decide) ?_
      refine C_iret dX4_firstTag_63 rfl ?_
      unfold det; rw [c_firstTag, if_pos (by omega), if_pos (by omega)]; exact ⟨rfl, rfl⟩
  · refine C_aload_n dX4_firstTag_14 rfl ?_
    refine C_get dX4_firstTag_15 f_X4_14 (fun h hc => ⟨_, hc.2.2.2.1 _ ht, rfl⟩) ?_
    refine C_aload_n dX4_firstTag_18 rfl ?_
    refine C_get dX4_firstTag_19 f_X4_42 (fun h hc => ⟨_, hc.2.2.2.1 _ ht, rfl⟩) ?_
    have g_19 := hw.2.2.1 t 8
    refine D_callV (As := [vi _]) (d' := 0) (row_at hw (kT1 ht) (by omega)) dX4_firstTag_22 v_X4_60 (fun h hc => ⟨_, (hc.1 _ (kT1 ht)).1⟩) rfl (Nat.le_of_ble_eq_true rfl) (by omega) (Nat.le_of_ble_eq_true rfl) ?_
    simp only [Option.toList, List.nil_append, List.cons_append]
    have r_22 := hw.ra2 (kT1 ht) (σ.2.1 t 8)
    refine C_iret dX4_firstTag_25 rfl ?_
    unfold det; rw [c_firstTag, if_neg (by omega)]; exact ⟨rfl, rfl⟩
theorem r_firstTag {σ : cS} {t : Nat} (hw : wf σ) (ht : kd t = 4) : -400000000 ≤ (c_firstTag σ t) ∧ (c_firstTag σ t) < 400000000 := by
  unfold c_firstTag
  split
  · split
    · have g_5 := hw.2.2.1 t 8
      have r_8 := hw.ra2 (kT1 ht) (σ.2.1 t 8)
      have g_31 := hw.2.2.1 t 8
      have r_36 := hw.ra2 (kT7 ht) ((σ.2.1 t 8) + 1)
      have g_40 := hw.2.2.1 t 8
      have g_51 := hw.2.2.1 t 8
      have r_56 := hw.ra2 (kT1 ht) ((σ.2.1 t 8) + 1)
      omega
    · have g_5 := hw.2.2.1 t 8
      have r_8 := hw.ra2 (kT1 ht) (σ.2.1 t 8)
      have g_31 := hw.2.2.1 t 8
      have r_36 := hw.ra2 (kT7 ht) ((σ.2.1 t 8) + 1)
      have g_40 := hw.2.2.1 t 8
      omega
  · have g_5 := hw.2.2.1 t 8
    have r_8 := hw.ra2 (kT1 ht) (σ.2.1 t 8)
    have g_19 := hw.2.2.1 t 8
    have r_22 := hw.ra2 (kT1 ht) (σ.2.1 t 8)
    omega
def c_isMissing (σ : cS) (t : Nat) : Bool := (if (rat (σ.1 (t + 3)) (σ.2.1 t 8)) = 1 then (if (rat (σ.1 (t + 9)) (σ.2.1 t 8)) = 0 then true else false) else false)
theorem t_isMissing {l : Launch} {G : jG} {d : Nat} {σ : cS} {t : Nat} (hw : wf σ) (hd : 1 ≤ d) (ht : kd t = 4) : CJ jCls jown l G (Yx mX4_isMissing) d 0 0 0 [some (.ref t)] [] σ (det (some (vi (bz (c_isMissing σ t)))) σ) := by
  refine C_aload_n dX4_isMissing_0 rfl ?_
  refine C_get dX4_isMissing_1 f_X4_20 (fun h hc => ⟨_, hc.2.2.2.1 _ ht, rfl⟩) ?_
  refine C_aload_n dX4_isMissing_4 rfl ?_
  refine C_get dX4_isMissing_5 f_X4_42 (fun h hc => ⟨_, hc.2.2.2.1 _ ht, rfl⟩) ?_
  have g_5 := hw.2.2.1 t 8
  refine D_callV (As := [vi _]) (d' := 0) (row_at hw (kT3 ht) (by omega)) dX4_isMissing_8 v_X4_60 (fun h hc => ⟨_, (hc.1 _ (kT3 ht)).1⟩) rfl (Nat.le_of_ble_eq_true rfl) (by omega) (Nat.le_of_ble_eq_true rfl) ?_
  simp only [Option.toList, List.nil_append, List.cons_append]
  have r_8 := hw.ra2 (kT3 ht) (σ.2.1 t 8)
  refine C_iconst dX4_isMissing_11 ?_
  refine C_icmp_ne (tgt := 33) dX4_isMissing_12 (by decide) (by omega) (by omega) (fun c_12 => ?_) (fun c_12 => ?_)
  · refine C_iconst dX4_isMissing_33 ?_
    refine C_zret dX4_isMissing_34 rfl (by first | exact Or.inl rfl | exact Or.inr rfl | exact bz_01 _) ?_
    unfold det; rw [c_isMissing, if_neg (by omega)]; exact ⟨rfl, rfl⟩
  · refine C_aload_n dX4_isMissing_15 rfl ?_
    refine C_get dX4_isMissing_16 f_X4_36 (fun h hc => ⟨_, hc.2.2.2.1 _ ht, rfl⟩) ?_
    refine C_aload_n dX4_isMissing_19 rfl ?_
    refine C_get dX4_isMissing_20 f_X4_42 (fun h hc => ⟨_, hc.2.2.2.1 _ ht, rfl⟩) ?_
    have g_20 := hw.2.2.1 t 8
    refine D_callV (As := [vi _]) (d' := 0) (row_at hw (kT9 ht) (by omega)) dX4_isMissing_23 v_X4_60 (fun h hc => ⟨_, (hc.1 _ (kT9 ht)).1⟩) rfl (Nat.le_of_ble_eq_true rfl) (by omega) (Nat.le_of_ble_eq_true rfl) ?_
    simp only [Option.toList, List.nil_append, List.cons_append]
    have r_23 := hw.ra2 (kT9 ht) (σ.2.1 t 8)
    refine C_if_ne (tgt := 33) dX4_isMissing_26 (by decide) (by omega) (fun c_26 => ?_) (fun c_26 => ?_)
    · refine C_iconst dX4_isMissing_33 ?_
      refine C_zret dX4_isMissing_34 rfl (by first | exact Or.inl rfl | exact Or.inr rfl | exact bz_01 _) ?_
      unfold det; rw [c_isMissing, if_pos (by omega), if_neg (by omega)]; exact ⟨rfl, rfl⟩
    · refine C_iconst dX4_isMissing_29 ?_
      refine C_goto (tgt := 34) dX4_isMissing_30 (by decide) ?_
      refine C_zret dX4_isMissing_34 rfl (by first | exact Or.inl rfl | exact Or.inr rfl | exact bz_01 _) ?_
      unfold det; rw [c_isMissing, if_pos (by omega), if_pos (by omega)]; exact ⟨rfl, rfl⟩
