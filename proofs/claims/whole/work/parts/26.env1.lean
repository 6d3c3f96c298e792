theorem isDigit_t {σ : cS} {c : Int} (h : c_isDigit σ c = true) : 48 ≤ c ∧ c ≤ 57 := by
  unfold c_isDigit at h
  split at h
  · cases h
  · split at h
    · cases h
    · exact ⟨by omega, by omega⟩
theorem isCapital_t {σ : cS} {c : Int} (h : c_isCapital σ c = true) : 65 ≤ c ∧ c ≤ 90 := by
  unfold c_isCapital at h
  split at h
  · cases h
  · split at h
    · cases h
    · exact ⟨by omega, by omega⟩
def c_startMatchL (t : Nat) : Nat → Int → cS → cS
  | 0, _, σ => σ
  | fu + 1, k, σ => (if (σ.1 (t + 1)).length ≤ k then (if ((cI σ t 7 (-1)).1 (t + 1)).length ≤ 0 then (cI (cI σ t 7 (-1)) t 8 (-1)) else (cI (cI σ t 7 (-1)) t 8 0)) else (c_startMatchL t fu (k + 1) (cadd σ (t + 9) 0)))
def c_startMatch (σ : cS) (t : Nat) : cS := (c_startMatchL t (2001) 0 (cemp σ (t + 9)))
theorem t_startMatchL {l : Launch} {G : jG} {d : Nat} {σ : cS} {t : Nat} {k : Int} (hw : wf σ) (hd : 1 ≤ d) (ht : kd t = 4) (fu : Nat) (hk : 0 ≤ k ∧ k ≤ 2000) (hm : 2000 - k < (fu : Int)) : CJ jCls jown l G (Yx mX4_startMatch) d 0 0 9 [some (.ref t), some (vi k)] [] σ (det none (c_startMatchL t fu k σ)) := by
  induction fu generalizing σ k with
  | zero => exact absurd hm (by omega)
  | succ fu ih =>
    refine C_iload_n dX4_startMatch_9 rfl ?_
    refine C_aload_n dX4_startMatch_10 rfl ?_
    refine C_get dX4_startMatch_11 f_X4_14 (fun h hc => ⟨_, hc.2.2.2.1 _ ht, rfl⟩) ?_
    refine D_callV (As := []) (d' := 0) (row_size hw (kT1 ht)) dX4_startMatch_14 v_X4_45 (fun h hc => ⟨_, (hc.1 _ (kT1 ht)).1⟩) rfl (Nat.le_of_ble_eq_true rfl) (by omega) (Nat.le_of_ble_eq_true rfl) ?_
    simp only [Option.toList, List.nil_append, List.cons_append]
    have r_14 := hw.len (kT1 ht)
    refine C_icmp_ge (tgt := 34) dX4_startMatch_17 (by decide) (by omega) (by omega) (fun c_17 => ?_) (fun c_17 => ?_)
    · refine C_aload_n dX4_startMatch_34 rfl ?_
      refine C_iconst dX4_startMatch_35 ?_
      refine C_put (σ' := (cI σ t 7 (-1))) dX4_startMatch_36 f_X4_39 jfit_i (ownT ht) (fun h hc => hc.putT7 ht) ?_
      have hw2 : wf (cI σ t 7 (-1)) := wf_I hw (by omega)
      refine C_aload_n dX4_startMatch_39 rfl ?_
      refine C_aload_n dX4_startMatch_40 rfl ?_
      refine C_get dX4_startMatch_41 f_X4_14 (fun h hc => ⟨_, hc.2.2.2.1 _ ht, rfl⟩) ?_
      refine D_callV (As := []) (d' := 0) (row_size hw2 (kT1 ht)) dX4_startMatch_44 v_X4_45 (fun h hc => ⟨_, (hc.1 _ (kT1 ht)).1⟩) rfl (Nat.le_of_ble_eq_true rfl) (by omega) (Nat.le_of_ble_eq_true rfl) ?_
      simp only [Option.toList, List.nil_append, List.cons_append]
      have r_44 := hw2.len (kT1 ht)
      refine C_if_le (tgt := 54) dX4_startMatch_47 (by decide) (by omega) (fun c_47 => ?_) (fun c_47 => ?_)
      · refine C_iconst dX4_startMatch_54 ?_
        refine C_put (σ' := (cI (cI σ t 7 (-1)) t 8 (-1))) dX4_startMatch_55 f_X4_42 jfit_i (ownT ht) (fun h hc => hc.putT8 ht) ?_
        have hw4 : wf (cI (cI σ t 7 (-1)) t 8 (-1)) := wf_I hw2 (by omega)
        refine C_vret dX4_startMatch_58 rfl ⟨rfl, ?_⟩
        rw [c_startMatchL, if_pos (by omega), if_pos (by omega)]
      · refine C_iconst dX4_startMatch_50 ?_
        refine C_goto (tgt := 55) dX4_startMatch_51 (by decide) ?_
        refine C_put (σ' := (cI (cI σ t 7 (-1)) t 8 0)) dX4_startMatch_55 f_X4_42 jfit_i (ownT ht) (fun h hc => hc.putT8 ht) ?_
        have hw5 : wf (cI (cI σ t 7 (-1)) t 8 0) := wf_I hw2 (by omega)
        refine C_vret dX4_startMatch_58 rfl ⟨rfl, ?_⟩
        rw [c_startMatchL, if_pos (by omega), if_neg (by omega)]
    · refine C_aload_n dX4_startMatch_20 rfl ?_
      refine C_get dX4_startMatch_21 f_X4_36 (fun h hc => ⟨_, hc.2.2.2.1 _ ht, rfl⟩) ?_
      refine C_iconst dX4_startMatch_24 ?_
      refine D_callV (As := [vi _]) (d' := 0) (row_add hw (kT9 ht) (by omega)) dX4_startMatch_25 v_X4_49 (fun h hc => ⟨_, (hc.1 _ (kT9 ht)).1⟩) rfl (Nat.le_of_ble_eq_true rfl) (by omega) (Nat.le_of_ble_eq_true rfl) ?_
      simp only [Option.toList, List.nil_append, List.cons_append]
      have hw6 : wf (cadd σ (t + 9) 0) := wf_add hw (by omega)
      refine C_iinc dX4_startMatch_28 rfl (by decide) rfl ?_
      simp only [List.set_cons_zero, List.set_cons_succ]
      refine C_goto (tgt := 9) dX4_startMatch_31 (by decide) ?_
      rw [c_startMatchL, if_neg (by omega)]
      refine CJ.mono (ls' := [some (.ref t), some (vi (k + 1))]) (lsub_ok (by repeat (first | exact trivial | refine ⟨rfl, ?_⟩))) (fun _ _ q => q) ?_
      exact ih hw6 (by omega) (by omega)
theorem t_startMatch {l : Launch} {G : jG} {d : Nat} {σ : cS} {t : Nat} (hw : wf σ) (hd : 1 ≤ d) (ht : kd t = 4) : CJ jCls jown l G (Yx mX4_startMatch) d 0 0 0 [some (.ref t), none] [] σ (det none (c_startMatch σ t)) := by
  refine C_aload_n dX4_startMatch_0 rfl ?_
  refine C_get dX4_startMatch_1 f_X4_36 (fun h hc => ⟨_, hc.2.2.2.1 _ ht, rfl⟩) ?_
  refine D_callV (As := []) (d' := 0) (row_empty hw (kT9 ht)) dX4_startMatch_4 v_X4_64 (fun h hc => ⟨_, (hc.1 _ (kT9 ht)).1⟩) rfl (Nat.le_of_ble_eq_true rfl) (by omega) (Nat.le_of_ble_eq_true rfl) ?_
  simp only [Option.toList, List.nil_append, List.cons_append]
  have hw1 : wf (cemp σ (t + 9)) := wf_emp hw
  refine C_iconst dX4_startMatch_7 ?_
  refine C_istore_n dX4_startMatch_8 (by decide) rfl ?_
  simp only [List.set_cons_zero, List.set_cons_succ, jfin0, jfin1, jfin2, jfin3]
  rw [c_startMatch]
  refine CJ.mono (ls' := [some (.ref t), some (vi 0)]) (lsub_ok (by repeat (first | exact trivial | refine ⟨rfl, ?_⟩))) (fun _ _ q => q) ?_
  exact t_startMatchL hw1 hd ht (2001) (by omega) (by omega)
theorem w_startMatchL {σ : cS} {t : Nat} {k : Int} (hw : wf σ) (ht : kd t = 4) (fu : Nat) (hk : 0 ≤ k ∧ k ≤ 2000) : wf (c_startMatchL t fu k σ) := by
  induction fu generalizing σ k with
  | zero => exact hw
  | succ fu ih =>
    unfold c_startMatchL
    split
    · split
      · have r_14 := hw.len (kT1 ht)
        have hw2 : wf (cI σ t 7 (-1)) := wf_I hw (by omega)
        have r_44 := hw2.len (kT1 ht)
        have hw4 : wf (cI (cI σ t 7 (-1)) t 8 (-1)) := wf_I hw2 (by omega)
        exact hw4
      · have r_14 := hw.len (kT1 ht)
        have hw2 : wf (cI σ t 7 (-1)) := wf_I hw (by omega)
        have r_44 := hw2.len (kT1 ht)
        have hw5 : wf (cI (cI σ t 7 (-1)) t 8 0) := wf_I hw2 (by omega)
        exact hw5
    · have r_14 := hw.len (kT1 ht)
      have hw6 : wf (cadd σ (t + 9) 0) := wf_add hw (by omega)
      exact ih hw6 (by omega)
theorem w_startMatch {σ : cS} {t : Nat} (hw : wf σ) (ht : kd t = 4) : wf (c_startMatch σ t) := by
  unfold c_startMatch
  have hw1 : wf (cemp σ (t + 9)) := wf_emp hw
  exact w_startMatchL hw1 ht (2001) (by omega)
def c_areSameL (p : Nat) (a : Int) (b : Int) : Nat → Int → Int → Int → Int → cS → Bool
  | 0, _, _, _, _, σ => false
  | fu + 1, x, f, g, i, σ => (if x ≤ i then true else (if (rat (σ.1 (p + 9)) (f + i)) = (rat (σ.1 (p + 9)) (g + i)) then (c_areSameL p a b fu x f g (i + 1) σ) else false))
def c_areSame (σ : cS) (p : Nat) (a : Int) (b : Int) : Bool := (if (c_widthOf σ p a) = (c_widthOf σ p b) then (c_areSameL p a b (400000001) (c_widthOf σ p a) (rat (σ.1 (p + 7)) a) (rat (σ.1 (p + 7)) b) 0 σ) else false)
theorem t_areSameL {l : Launch} {G : jG} {d : Nat} {σ : cS} {p : Nat} {a : Int} {b : Int} {x f g i : Int} (hw : wf σ) (hd : 2 ≤ d) (hp : kd p = 2) (ha : -1000000000 ≤ a ∧ a < 1000000000) (hb : -1000000000 ≤ b ∧ b < 1000000000) (fu : Nat) (hx : -400000000 ≤ x ∧ x < 400000000) (hf : -3000 ≤ f ∧ f < 100000000) (hg : -3000 ≤ g ∧ g < 100000000) (hi : 0 ≤ i ∧ i ≤ 400000000) (hm : 400000000 - i < (fu : Int)) : CJ jCls jown l G (Yx mX2_areSame) d 0 0 40 [some (.ref p), some (vi a), some (vi b), some (vi x), some (vi f), some (vi g), some (vi i)] [] σ (det (some (vi (bz (c_areSameL p a b fu x f g i σ)))) σ) := by
  induction fu generalizing σ x f g i with
  | zero => exact absurd hm (by omega)
  | succ fu ih =>
    refine C_iload dX2_areSame_40 rfl ?_
    refine C_iload_n dX2_areSame_42 rfl ?_
    refine C_icmp_ge (tgt := 81) dX2_areSame_43 (by decide) (by omega) (by omega) (fun c_43 => ?_) (fun c_43 => ?_)
    · refine C_iconst dX2_areSame_81 ?_
      refine C_zret dX2_areSame_82 rfl (by first | exact Or.inl rfl | exact Or.inr rfl | exact bz_01 _) ?_
      unfold det; rw [c_areSameL, if_pos (by omega)]; exact ⟨rfl, rfl⟩
    · refine C_aload_n dX2_areSame_46 rfl ?_
      refine C_get dX2_areSame_47 f_X2_29 (fun h hc => ⟨_, hc.2.1 _ hp, rfl⟩) ?_
      refine C_iload dX2_areSame_50 rfl ?_
      refine C_iload dX2_areSame_52 rfl ?_
      refine C_iadd dX2_areSame_54 ?_
      refine D_callV (As := [vi _]) (d' := 0) (row_at hw (kP9 hp) (by omega)) dX2_areSame_55 v_X2_42 (fun h hc => ⟨_, (hc.1 _ (kP9 hp)).1⟩) rfl (Nat.le_of_ble_eq_true rfl) (by omega) (Nat.le_of_ble_eq_true rfl) ?_
      simp only [Option.toList, List.nil_append, List.cons_append]
      have r_55 := hw.ra2 (kP9 hp) (f + i)
      refine C_aload_n dX2_areSame_58 rfl ?_
      refine C_get dX2_areSame_59 f_X2_29 (fun h hc => ⟨_, hc.2.1 _ hp, rfl⟩) ?_
      refine C_iload dX2_areSame_62 rfl ?_
      refine C_iload dX2_areSame_64 rfl ?_
      refine C_iadd dX2_areSame_66 ?_
      refine D_callV (As := [vi _]) (d' := 0) (row_at hw (kP9 hp) (by omega)) dX2_areSame_67 v_X2_42 (fun h hc => ⟨_, (hc.1 _ (kP9 hp)).1⟩) rfl (Nat.le_of_ble_eq_true rfl) (by omega) (Nat.le_of_ble_eq_true rfl) ?_
      simp only [Option.toList, List.nil_append, List.cons_append]
      have r_67 := hw.ra2 (kP9 hp) (g + i)
      refine C_icmp_eq (tgt := 75) dX2_areSame_70 (by decide) (by omega) (by omega) (fun c_70 => ?_) (fun c_70 => ?_)
      · refine C_iinc dX2_areSame_75 rfl (by decide) rfl ?_
        simp only [List.set_cons_zero, List.set_cons_succ]
        refine C_goto (tgt := 40) dX2_areSame_78 (by decide) ?_
        rw [c_areSameL, if_neg (by omega), if_pos (by omega)]
        refine CJ.mono (ls' := [some (.ref p), some (vi a), some (vi b), some (vi x), some (vi f), some (vi g), some (vi (i + 1))]) (lsub_ok (by repeat (first | exact trivial | refine ⟨rfl, ?_⟩))) (fun _ _ q => q) ?_
        exact ih hw (by omega) (by omega) (by omega) (by omega) (by omega)
      · refine C_iconst dX2_areSame_73 ?_
        refine C_zret dX2_areSame_74 rfl (by first | exact Or.inl rfl | exact Or.inr rfl | exact bz_01 _) ?_
        unfold det; rw [c_areSameL, if_neg (by omega), if_neg (by omega)]; exact ⟨rfl, rfl⟩
theorem t_areSame {l : Launch} {G : jG} {d : Nat} {σ : cS} {p : Nat} {a : Int} {b : Int} (hw : wf σ) (hd : 2 ≤ d) (hp : kd p = 2) (ha : -1000000000 ≤ a ∧ a < 1000000000) (hb : -1000000000 ≤ b ∧ b < 1000000000) : CJ jCls jown l G (Yx mX2_areSame) d 0 0 0 [some (.ref p), some (vi a), some (vi b), none, none, none, none] [] σ (det (some (vi (bz (c_areSame σ p a b)))) σ) := by
  refine C_aload_n dX2_areSame_0 rfl ?_
  refine C_iload_n dX2_areSame_1 rfl ?_
  refine D_callV (As := [vi _]) (d' := 1) (t_widthOf hw (Nat.le_refl _) hp (by omega)) dX2_areSame_2 v_X2_50 (fun h hc => ⟨_, hc.2.1 _ hp⟩) rfl (Nat.le_of_ble_eq_true rfl) (by omega) (Nat.le_of_ble_eq_true rfl) ?_
  simp only [Option.toList, List.nil_append, List.cons_append]
  have r_2 := r_widthOf (p := p) (k := a) hw hp (by omega)
  refine C_istore_n dX2_areSame_5 (by decide) rfl ?_
  simp only [List.set_cons_zero, List.set_cons_succ, jfin0, jfin1, jfin2, jfin3]
  refine C_iload_n dX2_areSame_6 rfl ?_
  refine C_aload_n dX2_areSame_7 rfl ?_
  refine C_iload_n dX2_areSame_8 rfl ?_
  refine D_callV (As := [vi _]) (d' := 1) (t_widthOf hw (Nat.le_refl _) hp (by omega)) dX2_areSame_9 v_X2_50 (fun h hc => ⟨_, hc.2.1 _ hp⟩) rfl (Nat.le_of_ble_eq_true rfl) (by omega) (Nat.le_of_ble_eq_true rfl) ?_
  simp only [Option.toList, List.nil_append, List.cons_append]
  have r_9 := r_widthOf (p := p) (k := b) hw hp (by omega)
  refine C_icmp_eq (tgt := 17) dX2_areSame_12 (by decide) (by omega) (by omega) (fun c_12 => ?_) (fun c_12 => ?_)
  · refine C_aload_n dX2_areSame_17 rfl ?_
    refine C_get dX2_areSame_18 f_X2_26 (fun h hc => ⟨_, hc.2.1 _ hp, rfl⟩) ?_
    refine C_iload_n dX2_areSame_21 rfl ?_
    refine D_callV (As := [vi _]) (d' := 0) (row_at hw (kP7 hp) (by omega)) dX2_areSame_22 v_X2_42 (fun h hc => ⟨_, (hc.1 _ (kP7 hp)).1⟩) rfl (Nat.le_of_ble_eq_true rfl) (by omega) (Nat.le_of_ble_eq_true rfl) ?_
    simp only [Option.toList, List.nil_append, List.cons_append]
    have r_22 := hw.ra2 (kP7 hp) a
    refine C_istore dX2_areSame_25 (by decide) rfl ?_
    simp only [List.set_cons_zero, List.set_cons_succ, jfin0, jfin1, jfin2, jfin3]
    refine C_aload_n dX2_areSame_27 rfl ?_
    refine C_get dX2_areSame_28 f_X2_26 (fun h hc => ⟨_, hc.2.1 _ hp, rfl⟩) ?_
    refine C_iload_n dX2_areSame_31 rfl ?_
    refine D_callV (As := [vi _]) (d' := 0) (row_at hw (kP7 hp) (by omega)) dX2_areSame_32 v_X2_42 (fun h hc => ⟨_, (hc.1 _ (kP7 hp)).1⟩) rfl (Nat.le_of_ble_eq_true rfl) (by omega) (Nat.le_of_ble_eq_true rfl) ?_
    simp only [Option.toList, List.nil_append, List.cons_append]
    have r_32 := hw.ra2 (kP7 hp) b
    refine C_istore dX2_areSame_35 (by decide) rfl ?_
    simp only [List.set_cons_zero, List.set_cons_succ, jfin0, jfin1, jfin2, jfin3]
    refine C_iconst dX2_areSame_37 ?_
    refine C_istore dX2_areSame_38 (by decide) rfl ?_
    simp only [List.set_cons_zero, List.set_cons_succ, jfin0, jfin1, jfin2, jfin3]
    rw [c_areSame, if_pos (by omega)]
    refine CJ.mono (ls' := [some (.ref p), some (vi a), some (vi b), some (vi (c_widthOf σ p a)), some (vi (rat (σ.1 (p + 7)) a)), some (vi (rat (σ.1 (p + 7)) b)), some (vi 0)]) (lsub_ok (by repeat (first | exact trivial | refine ⟨rfl, ?_⟩))) (fun _ _ q => q) ?_
    exact t_areSameL hw hd hp ha hb (400000001) (by omega) (by omega) (by omega) (by omega) (by omega)
  · refine C_iconst dX2_areSame_15 ?_
    refine C_zret dX2_areSame_16 rfl (by first | exact Or.inl rfl | exact Or.inr rfl | exact bz_01 _) ?_
    unfold det; rw [c_areSame, if_neg (by omega)]; exact ⟨rfl, rfl⟩
def c_filledEndL (p : Nat) (a : Int) : Nat → Int → Int → cS → Int
  | 0, _, _, σ => 0
  | fu + 1, f, k, σ => (if k ≤ f then f else (if (rat (σ.1 (p + 7)) k) ≤ (rat (σ.1 (p + 7)) (k - 1)) then (c_filledEndL p a fu f (k + (-1)) σ) else k))
def c_filledEnd (σ : cS) (p : Nat) (a : Int) : Int := (c_filledEndL p a (100003001) (rat (σ.1 (p + 5)) a) (rat (σ.1 (p + 5)) (a + 1)) σ)
theorem t_filledEndL {l : Launch} {G : jG} {d : Nat} {σ : cS} {p : Nat} {a : Int} {f k : Int} (hw : wf σ) (hd : 1 ≤ d) (hp : kd p = 2) (ha : -1000000000 ≤ a ∧ a < 1000000000) (fu : Nat) (hf : -3000 ≤ f ∧ f < 100000000) (hk : -3001 ≤ k ∧ k < 100000000) (hm : k + 3001 < (fu : Int)) : CJ jCls jown l G (Yx mX2_filledEnd) d 0 0 20 [some (.ref p), some (vi a), some (vi f), some (vi k)] [] σ (det (some (vi (c_filledEndL p a fu f k σ))) σ) := by
  induction fu generalizing σ f k with
  | zero => exact absurd hm (by omega)
  | succ fu ih =>
    refine C_iload_n dX2_filledEnd_20 rfl ?_
    refine C_iload_n dX2_filledEnd_21 rfl ?_
    refine C_icmp_le (tgt := 54) dX2_filledEnd_22 (by decide) (by omega) (by omega) (fun c_22 => ?_) (fun c_22 => ?_)
    · refine C_iload_n dX2_filledEnd_54 rfl ?_
      refine C_iret dX2_filledEnd_55 rfl ?_
      unfold det; rw [c_filledEndL, if_pos (by omega)]; exact ⟨rfl, rfl⟩
    · refine C_aload_n dX2_filledEnd_25 rfl ?_
      refine C_get dX2_filledEnd_26 f_X2_26 (fun h hc => ⟨_, hc.2.1 _ hp, rfl⟩) ?_
      refine C_iload_n dX2_filledEnd_29 rfl ?_
      refine D_callV (As := [vi _]) (d' := 0) (row_at hw (kP7 hp) (by omega)) dX2_filledEnd_30 v_X2_42 (fun h hc => ⟨_, (hc.1 _ (kP7 hp)).1⟩) rfl (Nat.le_of_ble_eq_true rfl) (by omega) (Nat.le_of_ble_eq_true rfl) ?_
      simp only [Option.toList, List.nil_append, List.cons_append]
      have r_30 := hw.ra2 (kP7 hp) k
      refine C_aload_n dX2_filledEnd_33 rfl ?_
      refine C_get dX2_filledEnd_34 f_X2_26 (fun h hc => ⟨_, hc.2.1 _ hp, rfl⟩) ?_
      refine C_iload_n dX2_filledEnd_37 rfl ?_
      refine C_iconst dX2_filledEnd_38 ?_
      refine C_isub dX2_filledEnd_39 ?_
      refine D_callV (As := [vi _]) (d' := 0) (row_at hw (kP7 hp) (by omega)) dX2_filledEnd_40 v_X2_42 (fun h hc => ⟨_, (hc.1 _ (kP7 hp)).1⟩) rfl (Nat.le_of_ble_eq_true rfl) (by omega) (Nat.le_of_ble_eq_true rfl) ?_
      simp only [Option.toList, List.nil_append, List.cons_append]
      have r_40 := hw.ra2 (kP7 hp) (k - 1)
      refine C_icmp_le (tgt := 48) dX2_filledEnd_43 (by decide) (by omega) (by omega) (fun c_43 => ?_) (fun c_43 => ?_)
      · refine C_iinc dX2_filledEnd_48 rfl (by decide) rfl ?_
        simp only [List.set_cons_zero, List.set_cons_succ]
        refine C_goto (tgt := 20) dX2_filledEnd_51 (by decide) ?_
        rw [c_filledEndL, if_neg (by omega), if_pos (by omega)]
        refine CJ.mono (ls' := [some (.ref p), some (vi a), some (vi f), some (vi (k + (-1)))]) (lsub_ok (by repeat (first | exact trivial | refine ⟨rfl, ?_⟩))) (fun _ _ q => q) ?_
        exact ih hw (by omega) (by omega) (by omega)
      · refine C_iload_n dX2_filledEnd_46 rfl ?_
        refine C_iret dX2_filledEnd_47 rfl ?_
        unfold det; rw [c_filledEndL, if_neg (by omega), if_neg (by omega)]; exact ⟨rfl, rfl⟩
theorem t_filledEnd {l : Launch} {G : jG} {d : Nat} {σ : cS} {p : Nat} {a : Int} (hw : wf σ) (hd : 1 ≤ d) (hp : kd p = 2) (ha : -1000000000 ≤ a ∧ a < 1000000000) : CJ jCls jown l G (Yx mX2_filledEnd) d 0 0 0 [some (.ref p), some (vi a), none, none] [] σ (det (some (vi (c_filledEnd σ p a))) σ) := by
  refine C_aload_n dX2_filledEnd_0 rfl ?_
  refine C_get dX2_filledEnd_1 f_X2_23 (fun h hc => ⟨_, hc.2.1 _ hp, rfl⟩) ?_
  refine C_iload_n dX2_filledEnd_4 rfl ?_
  refine D_callV (As := [vi _]) (d' := 0) (row_at hw (kP5 hp) (by omega)) dX2_filledEnd_5 v_X2_42 (fun h hc => ⟨_, (hc.1 _ (kP5 hp)).1⟩) rfl (Nat.le_of_ble_eq_true rfl) (by omega) (Nat.le_of_ble_eq_true rfl) ?_
  simp only [Option.toList, List.nil_append, List.cons_append]
  have r_5 := hw.ra2 (kP5 hp) a
  refine C_istore_n dX2_filledEnd_8 (by decide) rfl ?_
  simp only [List.set_cons_zero, List.set_cons_succ, jfin0, jfin1, jfin2, jfin3]
  refine C_aload_n dX2_filledEnd_9 rfl ?_
  refine C_get dX2_filledEnd_10 f_X2_23 (fun h hc => ⟨_, hc.2.1 _ hp, rfl⟩) ?_
  refine C_iload_n dX2_filledEnd_13 rfl ?_
  refine C_iconst dX2_filledEnd_14 ?_
  refine C_iadd dX2_filledEnd_15 ?_
  refine D_callV (As := [vi _]) (d' := 0) (row_at hw (kP5 hp) (by omega)) dX2_filledEnd_16 v_X2_42 (fun h hc => ⟨_, (hc.1 _ (kP5 hp)).1⟩) rfl (Nat.le_of_ble_eq_true rfl) (by omega) (Nat.le_of_ble_eq_true rfl) ?_
  simp only [Option.toList, List.nil_append, List.cons_append]
  have r_16 := hw.ra2 (kP5 hp) (a + 1)
  refine C_istore_n dX2_filledEnd_19 (by decide) rfl ?_
  simp only [List.set_cons_zero, List.set_cons_succ, jfin0, jfin1, jfin2, jfin3]
  rw [c_filledEnd]
  refine CJ.mono (ls' := [some (.ref p), some (vi a), some (vi (rat (σ.1 (p + 5)) a)), some (vi (rat (σ.1 (p + 5)) (a + 1)))]) (lsub_ok (by repeat (first | exact trivial | refine ⟨rfl, ?_⟩))) (fun _ _ q => q) ?_
  exact t_filledEndL hw hd hp ha (100003001) (by omega) (by omega) (by omega)
theorem r_filledEndL {σ : cS} {p : Nat} {a : Int} {f k : Int} (hw : wf σ) (hp : kd p = 2) (ha : -1000000000 ≤ a ∧ a < 1000000000) (fu : Nat) (hf : -3000 ≤ f ∧ f < 100000000) (hk : -3001 ≤ k ∧ k < 100000000) : -3000 ≤ (c_filledEndL p a fu f k σ) ∧ (c_filledEndL p a fu f k σ) < 100000000 := by
  induction fu generalizing σ f k with
  | zero => unfold c_filledEndL; omega
  | succ fu ih =>
    unfold c_filledEndL
    split
    · omega
    · split
      · have r_30 := hw.ra2 (kP7 hp) k
        have r_40 := hw.ra2 (kP7 hp) (k - 1)
        exact ih hw (by omega) (by omega)
      · have r_30 := hw.ra2 (kP7 hp) k
        have r_40 := hw.ra2 (kP7 hp) (k - 1)
        omega
theorem r_filledEnd {σ : cS} {p : Nat} {a : Int} (hw : wf σ) (hp : kd p = 2) (ha : -1000000000 ≤ a ∧ a < 1000000000) : -3000 ≤ (c_filledEnd σ p a) ∧ (c_filledEnd σ p a) < 100000000 := by
  unfold c_filledEnd
  have r_5 := hw.ra2 (kP5 hp) a
  have r_16 := hw.ra2 (kP5 hp) (a + 1)
  exact r_filledEndL hw hp ha (100003001) (by omega) (by omega)
def c_filledElementEndL (p : Nat) (s : Int) : Nat → Int → Int → cS → Int
  | 0, _, _, σ => 0
  | fu + 1, f, k, σ => (if k ≤ f then f else (if (c_filledEnd σ p (k - 1)) ≤ (rat (σ.1 (p + 5)) (k - 1)) then (c_filledElementEndL p s fu f (k + (-1)) σ) else k))
def c_filledElementEnd (σ : cS) (p : Nat) (s : Int) : Int := (c_filledElementEndL p s (100003001) (rat (σ.1 (p + 3)) s) (rat (σ.1 (p + 3)) (s + 1)) σ)
theorem t_filledElementEndL {l : Launch} {G : jG} {d : Nat} {σ : cS} {p : Nat} {s : Int} {f k : Int} (hw : wf σ) (hd : 2 ≤ d) (hp : kd p = 2) (hs : -1000000000 ≤ s ∧ s < 1000000000) (fu : Nat) (hf : -3000 ≤ f ∧ f < 100000000) (hk : -3001 ≤ k ∧ k < 100000000) (hm : k + 3001 < (fu : Int)) : CJ jCls jown l G (Yx mX2_filledElementEnd) d 0 0 20 [some (.ref p), some (vi s), some (vi f), some (vi k)] [] σ (det (some (vi (c_filledElementEndL p s fu f k σ))) σ) := by
  induction fu generalizing σ f k with
  | zero => exact absurd hm (by omega)
  | succ fu ih =>
    refine C_iload_n dX2_filledElementEnd_20 rfl ?_
    refine C_iload_n dX2_filledElementEnd_21 rfl ?_
    refine C_icmp_le (tgt := 53) dX2_filledElementEnd_22 (by decide) (by omega) (by omega) (fun c_22 => ?_) (fun c_22 => ?_)
    · refine C_iload_n dX2_filledElementEnd_53 rfl ?_
      refine C_iret dX2_filledElementEnd_54 rfl ?_
      unfold det; rw [c_filledElementEndL, if_pos (by omega)]; exact ⟨rfl, rfl⟩
    · refine C_aload_n dX2_filledElementEnd_25 rfl ?_
      refine C_iload_n dX2_filledElementEnd_26 rfl ?_
      refine C_iconst dX2_filledElementEnd_27 ?_
      refine C_isub dX2_filledElementEnd_28 ?_
      refine D_callV (As := [vi _]) (d' := 1) (t_filledEnd hw (Nat.le_refl _) hp (by omega)) dX2_filledElementEnd_29 v_X2_60 (fun h hc => ⟨_, hc.2.1 _ hp⟩) rfl (Nat.le_of_ble_eq_true rfl) (by omega) (Nat.le_of_ble_eq_true rfl) ?_
      simp only [Option.toList, List.nil_append, List.cons_append]
      have r_29 := r_filledEnd (p := p) (a := (k - 1)) hw hp (by omega)
      refine C_aload_n dX2_filledElementEnd_32 rfl ?_
      refine C_get dX2_filledElementEnd_33 f_X2_23 (fun h hc => ⟨_, hc.2.1 _ hp, rfl⟩) ?_
      refine C_iload_n dX2_filledElementEnd_36 rfl ?_
      refine C_iconst dX2_filledElementEnd_37 ?_
      refine C_isub dX2_filledElementEnd_38 ?_
      refine D_callV (As := [vi _]) (d' := 0) (row_at hw (kP5 hp) (by omega)) dX2_filledElementEnd_39 v_X2_42 (fun h hc => ⟨_, (hc.1 _ (kP5 hp)).1⟩) rfl (Nat.le_of_ble_eq_true rfl) (by omega) (Nat.le_of_ble_eq_true rfl) ?_
      simp only [Option.toList, List.nil_append, List.cons_append]
      have r_39 := hw.ra2 (kP5 hp) (k - 1)
      refine C_icmp_le (tgt := 47) dX2_filledElementEnd_42 (by decide) (by omega) (by omega) (fun c_42 => ?_) (fun c_42 => ?_)
      · refine C_iinc dX2_filledElementEnd_47 rfl (by decide) rfl ?_
        simp only [List.set_cons_zero, List.set_cons_succ]
        refine C_goto (tgt := 20) dX2_filledElementEnd_50 (by decide) ?_
        rw [c_filledElementEndL, if_neg (by omega), if_pos (by omega)]
        refine CJ.mono (ls' := [some (.ref p), some (vi s), some (vi f), some (vi (k + (-1)))]) (lsub_ok (by repeat (first | exact trivial | refine ⟨rfl, ?_⟩))) (fun _ _ q => q) ?_
        exact ih hw (by omega) (by omega) (by omega)
      · refine C_iload_n dX2_filledElementEnd_45 rfl ?_
        refine C_iret dX2_filledElementEnd_46 rfl ?_
        unfold det; rw [c_filledElementEndL, if_neg (by omega), if_neg (by omega)]; exact ⟨rfl, rfl⟩
theorem t_filledElementEnd {l : Launch} {G : jG} {d : Nat} {σ : cS} {p : Nat} {s : Int} (hw : wf σ) (hd : 2 ≤ d) (hp : kd p = 2) (hs : -1000000000 ≤ s ∧ s < 1000000000) : CJ jCls jown l G (Yx mX2_filledElementEnd) d 0 0 0 [some (.ref p), some (vi s), none, none] [] σ (det (some (vi (c_filledElementEnd σ p s))) σ) := by
  refine C_aload_n dX2_filledElementEnd_0 rfl ?_
  refine C_get dX2_filledElementEnd_1 f_X2_20 (fun h hc => ⟨_, hc.2.1 _ hp, rfl⟩) ?_
  refine C_iload_n dX2_filledElementEnd_4 rfl ?_
  refine D_callV (As := [vi _]) (d' := 0) (row_at hw (kP3 hp) (by omega)) dX2_filledElementEnd_5 v_X2_42 (fun h hc => ⟨_, (hc.1 _ (kP3 hp)).1⟩) rfl (Nat.le_of_ble_eq_true rfl) (by omega) (Nat.le_of_ble_eq_true rfl) ?_
  simp only [Option.toList, List.nil_append, List.cons_append]
  have r_5 := hw.ra2 (kP3 hp) s
  refine C_istore_n dX2_filledElementEnd_8 (by decide) rfl ?_
  simp only [List.set_cons_zero, List.set_cons_succ, jfin0, jfin1, jfin2, jfin3]
  refine C_aload_n dX2_filledElementEnd_9 rfl ?_
  refine C_get dX2_filledElementEnd_10 f_X2_20 (fun h hc => ⟨_, hc.2.1 _ hp, rfl⟩) ?_
  refine C_iload_n dX2_filledElementEnd_13 rfl ?_
  refine C_iconst dX2_filledElementEnd_14 ?_
  refine C_iadd dX2_filledElementEnd_15 ?_
  refine D_callV (As := [vi _]) (d' := 0) (row_at hw (kP3 hp) (by omega)) dX2_filledElementEnd_16 v_X2_42 (fun h hc => ⟨_, (hc.1 _ (kP3 hp)).1⟩) rfl (Nat.le_of_ble_eq_true rfl) (by omega) (Nat.le_of_ble_eq_true rfl) ?_
  simp only [Option.toList, List.nil_append, List.cons_append]
  have r_16 := hw.ra2 (kP3 hp) (s + 1)
  refine C_istore_n dX2_filledElementEnd_19 (by decide) rfl ?_
  simp only [List.set_cons_zero, List.set_cons_succ, jfin0, jfin1, jfin2, jfin3]
  rw [c_filledElementEnd]
  refine CJ.mono (ls' := [some (.ref p), some (vi s), some (vi (rat (σ.1 (p + 3)) s)), some (vi (rat (σ.1 (p + 3)) (s + 1)))]) (lsub_ok (by repeat (first | exact trivial | refine ⟨rfl, ?_⟩))) (fun _ _ q => q) ?_
  exact t_filledElementEndL hw hd hp hs (100003001) (by omega) (by omega) (by omega)
theorem r_filledElementEndL {σ : cS} {p : Nat} {s : Int} {f k : Int} (hw : wf σ) (hp : kd p = 2) (hs : -1000000000 ≤ s ∧ s < 1000000000) (fu : Nat) (hf : -3000 ≤ f ∧ f < 100000000) (hk : -3001 ≤ k ∧ k < 100000000) : -3000 ≤ (c_filledElementEndL p s fu f k σ) ∧ (c_filledElementEndL p s fu f k σ) < 100000000 := by
  induction fu generalizing σ f k with
  | zero => unfold c_filledElementEndL; omega
  | succ fu ih =>
    unfold c_filledElementEndL
    split
    · omega
    · split
      · have r_29 := r_filledEnd (p := p) (a := (k - 1)) hw hp (by omega)
        have r_39 := hw.ra2 (kP5 hp) (k - 1)
        exact ih hw (by omega) (by omega)
      · have r_29 := r_filledEnd (p := p) (a := (k - 1)) hw hp (by omega)
        have r_39 := hw.ra2 (kP5 hp) (k - 1)
        omega
theorem r_filledElementEnd {σ : cS} {p : Nat} {s : Int} (hw : wf σ) (hp : kd p = 2) (hs : -1000000000 ≤ s ∧ s < 1000000000) : -3000 ≤ (c_filledElementEnd σ p s) ∧ (c_filledElementEnd σ p s) < 100000000 := by
  unfold c_filledElementEnd
  have r_5 := hw.ra2 (kP3 hp) s
  have r_16 := hw.ra2 (kP3 hp) (s + 1)
  exact r_filledElementEndL hw hp hs (100003001) (by omega) (by omega)
def c_isNumberL (p : Nat) (a : Int) (u : Int) : Nat → Int → Int → Int → Int → cS → Bool
  | 0, _, _, _, _, σ => false
  | fu + 1, x, f, v, i, σ => (if x ≤ i then (if v = u then true else false) else (if (c_isDigit σ (rat (σ.1 (p + 9)) (f + i))) = true then (c_isNumberL p a u fu x f ((10 * v) + ((rat (σ.1 (p + 9)) (f + i)) - 48)) (i + 1) σ) else false))
def c_isNumber (σ : cS) (p : Nat) (a : Int) (u : Int) : Bool := (if (c_widthOf σ p a) < 1 then false else (if 3 < (c_widthOf σ p a) then false else (if (c_widthOf σ p a) ≤ 1 then (c_isNumberL p a u (4) (c_widthOf σ p a) (rat (σ.1 (p + 7)) a) 0 0 σ) else (if (rat (σ.1 (p + 9)) (rat (σ.1 (p + 7)) a)) = 48 then false else (c_isNumberL p a u (4) (c_widthOf σ p a) (rat (σ.1 (p + 7)) a) 0 0 σ)))))
theorem t_isNumberL {l : Launch} {G : jG} {d : Nat} {σ : cS} {p : Nat} {a : Int} {u : Int} {x f v i : Int} (hw : wf σ) (hd : 2 ≤ d) (hp : kd p = 2) (ha : -1000000000 ≤ a ∧ a < 1000000000) (hu : rg u) (fu : Nat) (hx : 0 ≤ x ∧ x ≤ 3) (hf : -3000 ≤ f ∧ f < 100000000) (hv : 0 ≤ v ∧ (i = 0 → v = 0) ∧ (i = 1 → v ≤ 9) ∧ (i = 2 → v ≤ 99) ∧ v ≤ 999) (hi : 0 ≤ i ∧ i ≤ 3) (hm : 3 - i < (fu : Int)) : CJ jCls jown l G (Yx mX2_isNumber) d 0 0 53 [some (.ref p), some (vi a), some (vi u), some (vi x), some (vi f), some (vi v), some (vi i), none] [] σ (det (some (vi (bz (c_isNumberL p a u fu x f v i σ)))) σ) := by
  induction fu generalizing σ x f v i with
  | zero => exact absurd hm (by omega)
  | succ fu ih =>
    refine C_iload dX2_isNumber_53 rfl ?_
    refine C_iload_n dX2_isNumber_55 rfl ?_
    refine C_icmp_ge (tgt := 102) dX2_isNumber_56 (by decide) (by omega) (by omega) (fun c_56 => ?_) (fun c_56 => ?_)
    · refine C_iload dX2_isNumber_102 rfl ?_
      refine C_iload_n dX2_isNumber_104 rfl ?_
      refine C_icmp_ne (tgt := 112) dX2_isNumber_105 (by decide) (by omega) (by omega) (fun c_105 => ?_) (fun c_105 => ?_)
      · refine C_iconst dX2_isNumber_112 ?_
        refine C_zret dX2_isNumber_113 rfl (by first | exact Or.inl rfl | exact Or.inr rfl | exact bz_01 _) ?_
        unfold det; rw [c_isNumberL, if_pos (by omega), if_neg (by omega)]; exact ⟨rfl, rfl⟩
      · refine C_iconst dX2_isNumber_108 ?_
        refine C_goto (tgt := 113) dX2_isNumber_109 (by decide) ?_
        refine C_zret dX2_isNumber_113 rfl (by first | exact Or.inl rfl | exact Or.inr rfl | exact bz_01 _) ?_
        unfold det; rw [c_isNumberL, if_pos (by omega), if_pos (by omega)]; exact ⟨rfl, rfl⟩
    · refine C_aload_n dX2_isNumber_59 rfl ?_
      refine C_get dX2_isNumber_60 f_X2_29 (fun h hc => ⟨_, hc.2.1 _ hp, rfl⟩) ?_
      refine C_iload dX2_isNumber_63 rfl ?_
      refine C_iload dX2_isNumber_65 rfl ?_
      refine C_iadd dX2_isNumber_67 ?_
      refine D_callV (As := [vi _]) (d' := 0) (row_at hw (kP9 hp) (by omega)) dX2_isNumber_68 v_X2_42 (fun h hc => ⟨_, (hc.1 _ (kP9 hp)).1⟩) rfl (Nat.le_of_ble_eq_true rfl) (by omega) (Nat.le_of_ble_eq_true rfl) ?_
      simp only [Option.toList, List.nil_append, List.cons_append]
      have r_68 := hw.ra2 (kP9 hp) (f + i)
      refine C_istore dX2_isNumber_71 (by decide) rfl ?_
      simp only [List.set_cons_zero, List.set_cons_succ, jfin0, jfin1, jfin2, jfin3]
      refine C_iload dX2_isNumber_73 rfl ?_
      refine D_callSN (As := [vi _]) (d' := 0) (t_isDigit hw (Nat.le_refl _) (by omega)) dX2_isNumber_75 s_X2_63 rfl (Nat.le_of_ble_eq_true rfl) (by omega) (Nat.le_of_ble_eq_true rfl) ?_
      simp only [Option.toList, List.nil_append, List.cons_append]
      refine C_if_neZ (tgt := 83) dX2_isNumber_78 (by decide) (fun c_78 => ?_) (fun c_78 => ?_)
      · have b_78_3 := isDigit_t (σ := _) (c := (rat (σ.1 (p + 9)) (f + i))) (by assumption)
        refine C_bipush dX2_isNumber_83 (by decide) ?_
        refine C_iload dX2_isNumber_85 rfl ?_
        refine C_imul dX2_isNumber_87 ?_
        refine C_iload dX2_isNumber_88 rfl ?_
        refine C_bipush dX2_isNumber_90 (by decide) ?_
        refine C_isub dX2_isNumber_92 ?_
        refine C_iadd dX2_isNumber_93 ?_
        refine C_istore dX2_isNumber_94 (by decide) rfl ?_
        simp only [List.set_cons_zero, List.set_cons_succ, jfin0, jfin1, jfin2, jfin3]
        refine C_iinc dX2_isNumber_96 rfl (by decide) rfl ?_
        simp only [List.set_cons_zero, List.set_cons_succ]
        refine C_goto (tgt := 53) dX2_isNumber_99 (by decide) ?_
        rw [c_isNumberL, if_neg (by omega), if_pos c_78]
        refine CJ.mono (ls' := [some (.ref p), some (vi a), some (vi u), some (vi x), some (vi f), some (vi ((10 * v) + ((rat (σ.1 (p + 9)) (f + i)) - 48))), some (vi (i + 1)), none]) (lsub_ok (by repeat (first | exact trivial | refine ⟨rfl, ?_⟩))) (fun _ _ q => q) ?_
        exact ih hw (by omega) (by omega) (by omega) (by omega) (by omega)
      · refine C_iconst dX2_isNumber_81 ?_
        refine C_zret dX2_isNumber_82 rfl (by first | exact Or.inl rfl | exact Or.inr rfl | exact bz_01 _) ?_
        unfold det; rw [c_isNumberL, if_neg (by omega), if_neg (by rw [c_78]; decide)]; exact ⟨rfl, rfl⟩
theorem t_isNumber {l : Launch} {G : jG} {d : Nat} {σ : cS} {p : Nat} {a : Int} {u : Int} (hw : wf σ) (hd : 2 ≤ d) (hp : kd p = 2) (ha : -1000000000 ≤ a ∧ a < 1000000000) (hu : rg u) : CJ jCls jown l G (Yx mX2_isNumber) d 0 0 0 [some (.ref p), some (vi a), some (vi u), none, none, none, none, none] [] σ (det (some (vi (bz (c_isNumber σ p a u)))) σ) := by
  refine C_aload_n dX2_isNumber_0 rfl ?_
  refine C_iload_n dX2_isNumber_1 rfl ?_
  refine D_callV (As := [vi _]) (d' := 1) (t_widthOf hw (Nat.le_refl _) hp (by omega)) dX2_isNumber_2 v_X2_50 (fun h hc => ⟨_, hc.2.1 _ hp⟩) rfl (Nat.le_of_ble_eq_true rfl) (by omega) (Nat.le_of_ble_eq_true rfl) ?_
  simp only [Option.toList, List.nil_append, List.cons_append]
  have r_2 := r_widthOf (p := p) (k := a) hw hp (by omega)
  refine C_istore_n dX2_isNumber_5 (by decide) rfl ?_
  simp only [List.set_cons_zero, List.set_cons_succ, jfin0, jfin1, jfin2, jfin3]
  refine C_aload_n dX2_isNumber_6 rfl ?_
  refine C_get dX2_isNumber_7 f_X2_26 (fun h hc => ⟨_, hc.2.1 _ hp, rfl⟩) ?_
  refine C_iload_n dX2_isNumber_10 rfl ?_
  refine D_callV (As := [vi _]) (d' := 0) (row_at hw (kP7 hp) (by omega)) dX2_isNumber_11 v_X2_42 (fun h hc => ⟨_, (hc.1 _ (kP7 hp)).1⟩) rfl (Nat.le_of_ble_eq_true rfl) (by omega) (Nat.le_of_ble_eq_true rfl) ?_
  simp only [Option.toList, List.nil_append, List.cons_append]
  have r_11 := hw.ra2 (kP7 hp) a
  refine C_istore dX2_isNumber_14 (by decide) rfl ?_
  simp only [List.set_cons_zero, List.set_cons_succ, jfin0, jfin1, jfin2, jfin3]
  refine C_iload_n dX2_isNumber_16 rfl ?_
  refine C_iconst dX2_isNumber_17 ?_
  refine C_icmp_lt (tgt := 45) dX2_isNumber_18 (by decide) (by omega) (by omega) (fun c_18 => ?_) (fun c_18 => ?_)
  · refine C_iconst dX2_isNumber_45 ?_
    refine C_zret dX2_isNumber_46 rfl (by first | exact Or.inl rfl | exact Or.inr rfl | exact bz_01 _) ?_
    unfold det; rw [c_isNumber, if_pos (by omega)]; exact ⟨rfl, rfl⟩
  · refine C_iload_n dX2_isNumber_21 rfl ?_
    refine C_iconst dX2_isNumber_22 ?_
    refine C_icmp_gt (tgt := 45) dX2_isNumber_23 (by decide) (by omega) (by omega) (fun c_23 => ?_) (fun c_23 => ?_)
    · refine C_iconst dX2_isNumber_45 ?_
      refine C_zret dX2_isNumber_46 rfl (by first | exact Or.inl rfl | exact Or.inr rfl | exact bz_01 _) ?_
      unfold det; rw [c_isNumber, if_neg (by omega), if_pos (by omega)]; exact ⟨rfl, rfl⟩
    · refine C_iload_n dX2_isNumber_26 rfl ?_
      refine C_iconst dX2_isNumber_27 ?_
      refine C_icmp_le (tgt := 47) dX2_isNumber_28 (by decide) (by omega) (by omega) (fun c_28 => ?_) (fun c_28 => ?_)
      · refine C_iconst dX2_isNumber_47 ?_
        refine C_istore dX2_isNumber_48 (by decide) rfl ?_
        simp only [List.set_cons_zero, List.set_cons_succ, jfin0, jfin1, jfin2, jfin3]
        refine C_iconst dX2_isNumber_50 ?_
        refine C_istore dX2_isNumber_51 (by decide) rfl ?_
        simp only [List.set_cons_zero, List.set_cons_succ, jfin0, jfin1, jfin2, jfin3]
        rw [c_isNumber, if_neg (by omega), if_neg (by omega), if_pos (by omega)]
        refine CJ.mono (ls' := [some (.ref p), some (vi a), some (vi u), some (vi (c_widthOf σ p a)), some (vi (rat (σ.1 (p + 7)) a)), some (vi 0), some (vi 0), none]) (lsub_ok (by repeat (first | exact trivial | refine ⟨rfl, ?_⟩))) (fun _ _ q => q) ?_
        exact t_isNumberL hw hd hp ha hu (4) (by omega) (by omega) (by omega) (by omega) (by omega)
      · refine C_aload_n dX2_isNumber_31 rfl ?_
        refine C_get dX2_isNumber_32 f_X2_29 (fun h hc => ⟨_, hc.2.1 _ hp, rfl⟩) ?_
        refine C_iload dX2_isNumber_35 rfl ?_
        refine D_callV (As := [vi _]) (d' := 0) (row_at hw (kP9 hp) (by omega)) dX2_isNumber_37 v_X2_42 (fun h hc => ⟨_, (hc.1 _ (kP9 hp)).1⟩) rfl (Nat.le_of_ble_eq_true rfl) (by omega) (Nat.le_of_ble_eq_true rfl) ?_
        simp only [Option.toList, List.nil_append, List.cons_append]
        have r_37 := hw.ra2 (kP9 hp) (rat (σ.1 (p + 7)) a)
        refine C_bipush dX2_isNumber_40 (by decide) ?_
        refine C_icmp_ne (tgt := 47) dX2_isNumber_42 (by decide) (by omega) (by omega) (fun c_42 => ?_) (fun c_42 => ?_)
        · refine C_iconst dX2_isNumber_47 ?_
          refine C_istore dX2_isNumber_48 (by decide) rfl ?_
          simp only [List.set_cons_zero, List.set_cons_succ, jfin0, jfin1, jfin2, jfin3]
          refine C_iconst dX2_isNumber_50 ?_
          refine C_istore dX2_isNumber_51 (by decide) rfl ?_
          simp only [List.set_cons_zero, List.set_cons_succ, jfin0, jfin1, jfin2, jfin3]
          rw [c_isNumber, if_neg (by omega), if_neg (by omega), if_neg (by omega), if_neg (by omega)]
          refine CJ.mono (ls' := [some (.ref p), some (vi a), some (vi u), some (vi (c_widthOf σ p a)), some (vi (rat (σ.1 (p + 7)) a)), some (vi 0), some (vi 0), none]) (lsub_ok (by repeat (first | exact trivial | refine ⟨rfl, ?_⟩))) (fun _ _ q => q) ?_
          exact t_isNumberL hw hd hp ha hu (4) (by omega) (by omega) (by omega) (by omega) (by omega)
        · refine C_iconst dX2_isNumber_45 ?_
          refine C_zret dX2_isNumber_46 rfl (by first | exact Or.inl rfl | exact Or.inr rfl | exact bz_01 _) ?_
          unfold det; rw [c_isNumber, if_neg (by omega), if_neg (by omega), if_neg (by omega), if_pos (by omega)]; exact ⟨rfl, rfl⟩
def c_messageCount (σ : cS) (e : Nat) : Int := (σ.1 (e + 12)).length
theorem t_messageCount {l : Launch} {G : jG} {d : Nat} {σ : cS} {e : Nat} (hw : wf σ) (hd : 1 ≤ d) (he : kd e = 0) : CJ jCls jown l G (Yx mX0_messageCount) d 0 0 0 [some (.ref e)] [] σ (det (some (vi (c_messageCount σ e))) σ) := by
  refine C_aload_n dX0_messageCount_0 rfl ?_
  refine C_get dX0_messageCount_1 f_X0_23 (fun h hc => ⟨_, hc.2.2.1 _ he, rfl⟩) ?_
  refine D_callV (As := []) (d' := 0) (row_size hw (kE12 he)) dX0_messageCount_4 v_X0_80 (fun h hc => ⟨_, (hc.1 _ (kE12 he)).1⟩) rfl (Nat.le_of_ble_eq_true rfl) (by omega) (Nat.le_of_ble_eq_true rfl) ?_
  simp only [Option.toList, List.nil_append, List.cons_append]
  have r_4 := hw.len (kE12 he)
  refine C_iret dX0_messageCount_7 rfl ?_
  unfold det; rw [c_messageCount]; exact ⟨rfl, rfl⟩
theorem r_messageCount {σ : cS} {e : Nat} (hw : wf σ) (he : kd e = 0) : 0 ≤ (c_messageCount σ e) ∧ (c_messageCount σ e) < 2001 := by
  unfold c_messageCount
  have r_4 := hw.len (kE12 he)
  omega
def c_groupCount (σ : cS) (e : Nat) : Int := (σ.1 (e + 22)).length
theorem t_groupCount {l : Launch} {G : jG} {d : Nat} {σ : cS} {e : Nat} (hw : wf σ) (hd : 1 ≤ d) (he : kd e = 0) : CJ jCls jown l G (Yx mX0_groupCount) d 0 0 0 [some (.ref e)] [] σ (det (some (vi (c_groupCount σ e))) σ) := by
  refine C_aload_n dX0_groupCount_0 rfl ?_
  refine C_get dX0_groupCount_1 f_X0_39 (fun h hc => ⟨_, hc.2.2.1 _ he, rfl⟩) ?_
  refine D_callV (As := []) (d' := 0) (row_size hw (kE22 he)) dX0_groupCount_4 v_X0_80 (fun h hc => ⟨_, (hc.1 _ (kE22 he)).1⟩) rfl (Nat.le_of_ble_eq_true rfl) (by omega) (Nat.le_of_ble_eq_true rfl) ?_
  simp only [Option.toList, List.nil_append, List.cons_append]
  have r_4 := hw.len (kE22 he)
  refine C_iret dX0_groupCount_7 rfl ?_
  unfold det; rw [c_groupCount]; exact ⟨rfl, rfl⟩
theorem r_groupCount {σ : cS} {e : Nat} (hw : wf σ) (he : kd e = 0) : 0 ≤ (c_groupCount σ e) ∧ (c_groupCount σ e) < 2001 := by
  unfold c_groupCount
  have r_4 := hw.len (kE22 he)
  omega
def c_ecode (σ : cS) (e : Nat) : Int := (σ.2.1 e 10)
theorem t_ecode {l : Launch} {G : jG} {d : Nat} {σ : cS} {e : Nat} (hw : wf σ) (hd : 0 ≤ d) (he : kd e = 0) : CJ jCls jown l G (Yx mX0_code) d 0 0 0 [some (.ref e)] [] σ (det (some (vi (c_ecode σ e))) σ) := by
  refine C_aload_n dX0_code_0 rfl ?_
  refine C_get dX0_code_1 f_X0_51 (fun h hc => ⟨_, hc.2.2.1 _ he, rfl⟩) ?_
  have g_1 := hw.2.2.1 e 10
  refine C_iret dX0_code_4 rfl ?_
  unfold det; rw [c_ecode]; exact ⟨rfl, rfl⟩
theorem r_ecode {σ : cS} {e : Nat} (hw : wf σ) (he : kd e = 0) : -3000 ≤ (c_ecode σ e) ∧ (c_ecode σ e) < 100000000 := by
  unfold c_ecode
  have g_1 := hw.2.2.1 e 10
  omega
def c_codeOfGroup (σ : cS) (e : Nat) (g : Int) : Int := (rat (σ.1 (e + 28)) g)
theorem t_codeOfGroup {l : Launch} {G : jG} {d : Nat} {σ : cS} {e : Nat} {g : Int} (hw : wf σ) (hd : 1 ≤ d) (he : kd e = 0) (hg : rg g) : CJ jCls jown l G (Yx mX0_codeOfGroup) d 0 0 0 [some (.ref e), some (vi g)] [] σ (det (some (vi (c_codeOfGroup σ e g))) σ) := by
  refine C_aload_n dX0_codeOfGroup_0 rfl ?_
  refine C_get dX0_codeOfGroup_1 f_X0_48 (fun h hc => ⟨_, hc.2.2.1 _ he, rfl⟩) ?_
  refine C_iload_n dX0_codeOfGroup_4 rfl ?_
  refine D_callV (As := [vi _]) (d' := 0) (row_at hw (kE28 he) (by omega)) dX0_codeOfGroup_5 v_X0_93 (fun h hc => ⟨_, (hc.1 _ (kE28 he)).1⟩) rfl (Nat.le_of_ble_eq_true rfl) (by omega) (Nat.le_of_ble_eq_true rfl) ?_
  simp only [Option.toList, List.nil_append, List.cons_append]
  have r_5 := hw.ra2 (kE28 he) g
  refine C_iret dX0_codeOfGroup_8 rfl ?_
  unfold det; rw [c_codeOfGroup]; exact ⟨rfl, rfl⟩
theorem r_codeOfGroup {σ : cS} {e : Nat} {g : Int} (hw : wf σ) (he : kd e = 0) (hg : rg g) : -3000 ≤ (c_codeOfGroup σ e g) ∧ (c_codeOfGroup σ e g) < 100000000 := by
  unfold c_codeOfGroup
  have r_5 := hw.ra2 (kE28 he) g
  omega
def c_ofMessage (σ : cS) (e : Nat) (j : Int) (x : Int) : Int := (if j < 0 then (-1) else (if j < (σ.1 (e + 12)).length then (if x = 0 then (rat (σ.1 (e + 18)) j) else (if x = 1 then (rat (σ.1 (e + 20)) j) else (if x = 2 then (((rat (σ.1 (e + 14)) j) - (rat (σ.1 (e + 12)) j)) + 1) else (if x = 3 then (rat (σ.1 (e + 16)) j) else (-1))))) else (-1)))
theorem t_ofMessage {l : Launch} {G : jG} {d : Nat} {σ : cS} {e : Nat} {j : Int} {x : Int} (hw : wf σ) (hd : 1 ≤ d) (he : kd e = 0) (hj : rg j) (hx : rg x) : CJ jCls jown l G (Yx mX0_ofMessage) d 0 0 0 [some (.ref e), some (vi j), some (vi x)] [] σ (det (some (vi (c_ofMessage σ e j x))) σ) := by
  refine C_iload_n dX0_ofMessage_0 rfl ?_
  refine C_if_lt (tgt := 15) dX0_ofMessage_1 (by decide) (by omega) (fun c_1 => ?_) (fun c_1 => ?_)
  · refine C_iconst dX0_ofMessage_15 ?_
    refine C_iret dX0_ofMessage_16 rfl ?_
    unfold det; rw [c_ofMessage, if_pos (by omega)]; exact ⟨rfl, rfl⟩
  · refine C_iload_n dX0_ofMessage_4 rfl ?_
    refine C_aload_n dX0_ofMessage_5 rfl ?_
    refine C_get dX0_ofMessage_6 f_X0_23 (fun h hc => ⟨_, hc.2.2.1 _ he, rfl⟩) ?_
    refine D_callV (As := []) (d' := 0) (row_size hw (kE12 he)) dX0_ofMessage_9 v_X0_80 (fun h hc => ⟨_, (hc.1 _ (kE12 he)).1⟩) rfl (Nat.le_of_ble_eq_true rfl) (by omega) (Nat.le_of_ble_eq_true rfl) ?_
    simp only [Option.toList, List.nil_append, List.cons_append]
    have r_9 := hw.len (kE12 he)
    refine C_icmp_lt (tgt := 17) dX0_ofMessage_12 (by decide) (by omega) (by omega) (fun c_12 => ?_) (fun c_12 => ?_)
    · refine C_iload_n dX0_ofMessage_17 rfl ?_
      by_cases c_18_0 : x = 0
      · refine C_tableIn (off := 30) (tgt := 48) dX0_ofMessage_18 (by omega) (by omega) (by omega) (by rw [c_18_0]; rfl) (by decide) ?_
        refine C_aload_n dX0_ofMessage_48 rfl ?_
        refine C_get dX0_ofMessage_49 f_X0_33 (fun h hc => ⟨_, hc.2.2.1 _ he, rfl⟩) ?_
        refine C_iload_n dX0_ofMessage_52 rfl ?_
        refine D_callV (As := [vi _]) (d' := 0) (row_at hw (kE18 he) (by omega)) dX0_ofMessage_53 v_X0_93 (fun h hc => ⟨_, (hc.1 _ (kE18 he)).1⟩) rfl (Nat.le_of_ble_eq_true rfl) (by omega) (Nat.le_of_ble_eq_true rfl) ?_
        simp only [Option.toList, List.nil_append, List.cons_append]
        have r_53 := hw.ra2 (kE18 he) j
        refine C_iret dX0_ofMessage_56 rfl ?_
        unfold det; rw [c_ofMessage, if_neg (by omega), if_pos (by omega), if_pos (by omega)]; exact ⟨rfl, rfl⟩
      by_cases c_18_1 : x = 1
      · refine C_tableIn (off := 39) (tgt := 57) dX0_ofMessage_18 (by omega) (by omega) (by omega) (by rw [c_18_1]; rfl) (by decide) ?_
        refine C_aload_n dX0_ofMessage_57 rfl ?_
        refine C_get dX0_ofMessage_58 f_X0_36 (fun h hc => ⟨_, hc.2.2.1 _ he, rfl⟩) ?_
        refine C_iload_n dX0_ofMessage_61 rfl ?_
        refine D_callV (As := [vi _]) (d' := 0) (row_at hw (kE20 he) (by omega)) dX0_ofMessage_62 v_X0_93 (fun h hc => ⟨_, (hc.1 _ (kE20 he)).1⟩) rfl (Nat.le_of_ble_eq_true rfl) (by omega) (Nat.le_of_ble_eq_true rfl) ?_
        simp only [Option.toList, List.nil_append, List.cons_append]
        have r_62 := hw.ra2 (kE20 he) j
        refine C_iret dX0_ofMessage_65 rfl ?_
        unfold det; rw [c_ofMessage, if_neg (by omega), if_pos (by omega), if_neg (by omega), if_pos (by omega)]; exact ⟨rfl, rfl⟩
      by_cases c_18_2 : x = 2
      · refine C_tableIn (off := 48) (tgt := 66) dX0_ofMessage_18 (by omega) (by omega) (by omega) (by rw [c_18_2]; rfl) (by decide) ?_
        refine C_aload_n dX0_ofMessage_66 rfl ?_
        refine C_get dX0_ofMessage_67 f_X0_27 (fun h hc => ⟨_, hc.2.2.1 _ he, rfl⟩) ?_
        refine C_iload_n dX0_ofMessage_70 rfl ?_
        refine D_callV (As := [vi _]) (d' := 0) (row_at hw (kE14 he) (by omega)) dX0_ofMessage_71 v_X0_93 (fun h hc => ⟨_, (hc.1 _ (kE14 he)).1⟩) rfl (Nat.le_of_ble_eq_true rfl) (by omega) (Nat.le_of_ble_eq_true rfl) ?_
        simp only [Option.toList, List.nil_append, List.cons_append]
        have r_71 := hw.ra2 (kE14 he) j
        refine C_aload_n dX0_ofMessage_74 rfl ?_
        refine C_get dX0_ofMessage_75 f_X0_23 (fun h hc => ⟨_, hc.2.2.1 _ he, rfl⟩) ?_
        refine C_iload_n dX0_ofMessage_78 rfl ?_
        refine D_callV (As := [vi _]) (d' := 0) (row_at hw (kE12 he) (by omega)) dX0_ofMessage_79 v_X0_93 (fun h hc => ⟨_, (hc.1 _ (kE12 he)).1⟩) rfl (Nat.le_of_ble_eq_true rfl) (by omega) (Nat.le_of_ble_eq_true rfl) ?_
        simp only [Option.toList, List.nil_append, List.cons_append]
        have r_79 := hw.ra2 (kE12 he) j
        refine C_isub dX0_ofMessage_82 ?_
        refine C_iconst dX0_ofMessage_83 ?_
        refine C_iadd dX0_ofMessage_84 ?_
        refine C_iret dX0_ofMessage_85 rfl ?_
        unfold det; rw [c_ofMessage, if_neg (by omega), if_pos (by omega), if_neg (by omega), if_neg (by omega), if_pos (by omega)]; exact ⟨rfl, rfl⟩
      by_cases c_18_3 : x = 3
      · refine C_tableIn (off := 68) (tgt := 86) dX0_ofMessage_18 (by omega) (by omega) (by omega) (by rw [c_18_3]; rfl) (by decide) ?_
        refine C_aload_n dX0_ofMessage_86 rfl ?_
        refine C_get dX0_ofMessage_87 f_X0_30 (fun h hc => ⟨_, hc.2.2.1 _ he, rfl⟩) ?_
        refine C_iload_n dX0_ofMessage_90 rfl ?_
        refine D_callV (As := [vi _]) (d' := 0) (row_at hw (kE16 he) (by omega)) dX0_ofMessage_91 v_X0_93 (fun h hc => ⟨_, (hc.1 _ (kE16 he)).1⟩) rfl (Nat.le_of_ble_eq_true rfl) (by omega) (Nat.le_of_ble_eq_true rfl) ?_
        simp only [Option.toList, List.nil_append, List.cons_append]
        have r_91 := hw.ra2 (kE16 he) j
        refine C_iret dX0_ofMessage_94 rfl ?_
        unfold det; rw [c_ofMessage, if_neg (by omega), if_pos (by omega), if_neg (by omega), if_neg (by omega), if_neg (by omega), if_pos (by omega)]; exact ⟨rfl, rfl⟩
      refine C_tableOut (tgt := 95) dX0_ofMessage_18 (by omega) (by omega) (by decide) ?_
      refine C_iconst dX0_ofMessage_95 ?_
      refine C_iret dX0_ofMessage_96 rfl ?_
      unfold det; rw [c_ofMessage, if_neg (by omega), if_pos (by omega), if_neg (by omega), if_neg (by omega), if_neg (by omega), if_neg (by omega)]; exact ⟨rfl, rfl⟩
    · refine C_iconst dX0_ofMessage_15 ?_
      refine C_iret dX0_ofMessage_16 rfl ?_
      unfold det; rw [c_ofMessage, if_neg (by omega), if_neg (by omega)]; exact ⟨rfl, rfl⟩
theorem r_ofMessage {σ : cS} {e : Nat} {j : Int} {x : Int} (hw : wf σ) (he : kd e = 0) (hj : rg j) (hx : rg x) : -400000000 ≤ (c_ofMessage σ e j x) ∧ (c_ofMessage σ e j x) < 400000000 := by
  unfold c_ofMessage
  split
  · omega
  · split
    · split
      · have r_9 := hw.len (kE12 he)
        have r_53 := hw.ra2 (kE18 he) j
        omega
      · split
        · have r_9 := hw.len (kE12 he)
          have r_62 := hw.ra2 (kE20 he) j
          omega
        · split
          · have r_9 := hw.len (kE12 he)
            have r_71 := hw.ra2 (kE14 he) j
            have r_79 := hw.ra2 (kE12 he) j
            omega
          · split
            · have r_9 := hw.len (kE12 he)
              have r_91 := hw.ra2 (kE16 he) j
              omega
            · have r_9 := hw.len (kE12 he)
              omega
    · have r_9 := hw.len (kE12 he)
      omega
def c_reference (σ : cS) (e : Nat) : Int := (c_componentAt σ (e + 1) 0 2 0)
theorem t_reference {l : Launch} {G : jG} {d : Nat} {σ : cS} {e : Nat} (hw : wf σ) (hd : 3 ≤ d) (he : kd e = 0) : CJ jCls jown l G (Yx mX0_reference) d 0 0 0 [some (.ref e)] [] σ (det (some (vi (c_reference σ e))) σ) := by
  refine C_aload_n dX0_reference_0 rfl ?_
  refine C_get dX0_reference_1 f_X0_12 (fun h hc => ⟨_, hc.2.2.1 _ he, rfl⟩) ?_
  refine C_iconst dX0_reference_4 ?_
  refine C_iconst dX0_reference_5 ?_
  refine C_iconst dX0_reference_6 ?_
  refine D_callV (As := [vi _, vi _, vi _]) (d' := 2) (t_componentAt hw (Nat.le_refl _) (kE1 he) (by omega) (by omega) (by omega)) dX0_reference_7 v_X0_96 (fun h hc => ⟨_, hc.2.1 _ (kE1 he)⟩) rfl (Nat.le_of_ble_eq_true rfl) (by omega) (Nat.le_of_ble_eq_true rfl) ?_
  simp only [Option.toList, List.nil_append, List.cons_append]
  have r_7 := r_componentAt (p := e + 1) (s := 0) (e := 2) (c := 0) hw (kE1 he) (by omega) (by omega) (by omega)
  refine C_iret dX0_reference_10 rfl ?_
  unfold det; rw [c_reference]; exact ⟨rfl, rfl⟩
theorem r_reference {σ : cS} {e : Nat} (hw : wf σ) (he : kd e = 0) : -400000000 ≤ (c_reference σ e) ∧ (c_reference σ e) < 400000000 := by
  unfold c_reference
  have r_7 := r_componentAt (p := e + 1) (s := 0) (e := 2) (c := 0) hw (kE1 he) (by omega) (by omega) (by omega)
  omega
def c_referenceOfGroup (σ : cS) (e : Nat) (g : Int) : Int := (c_componentAt σ (e + 1) (rat (σ.1 (e + 22)) g) 0 0)
theorem t_referenceOfGroup {l : Launch} {G : jG} {d : Nat} {σ : cS} {e : Nat} {g : Int} (hw : wf σ) (hd : 3 ≤ d) (he : kd e = 0) (hg : rg g) : CJ jCls jown l G (Yx mX0_referenceOfGroup) d 0 0 0 [some (.ref e), some (vi g)] [] σ (det (some (vi (c_referenceOfGroup σ e g))) σ) := by
  refine C_aload_n dX0_referenceOfGroup_0 rfl ?_
  refine C_get dX0_referenceOfGroup_1 f_X0_12 (fun h hc => ⟨_, hc.2.2.1 _ he, rfl⟩) ?_
  refine C_aload_n dX0_referenceOfGroup_4 rfl ?_
  refine C_get dX0_referenceOfGroup_5 f_X0_39 (fun h hc => ⟨_, hc.2.2.1 _ he, rfl⟩) ?_
  refine C_iload_n dX0_referenceOfGroup_8 rfl ?_
  refine D_callV (As := [vi _]) (d' := 0) (row_at hw (kE22 he) (by omega)) dX0_referenceOfGroup_9 v_X0_93 (fun h hc => ⟨_, (hc.1 _ (kE22 he)).1⟩) rfl (Nat.le_of_ble_eq_true rfl) (by omega) (Nat.le_of_ble_eq_true rfl) ?_
  simp only [Option.toList, List.nil_append, List.cons_append]
  have r_9 := hw.ra2 (kE22 he) g
  refine C_iconst dX0_referenceOfGroup_12 ?_
  refine C_iconst dX0_referenceOfGroup_13 ?_
  refine D_callV (As := [vi _, vi _, vi _]) (d' := 2) (t_componentAt hw (Nat.le_refl _) (kE1 he) (by omega) (by omega) (by omega)) dX0_referenceOfGroup_14 v_X0_96 (fun h hc => ⟨_, hc.2.1 _ (kE1 he)⟩) rfl (Nat.le_of_ble_eq_true rfl) (by omega) (Nat.le_of_ble_eq_true rfl) ?_
  simp only [Option.toList, List.nil_append, List.cons_append]
  have r_14 := r_componentAt (p := e + 1) (s := (rat (σ.1 (e + 22)) g)) (e := 0) (c := 0) hw (kE1 he) (by omega) (by omega) (by omega)
  refine C_iret dX0_referenceOfGroup_17 rfl ?_
  unfold det; rw [c_referenceOfGroup]; exact ⟨rfl, rfl⟩
theorem r_referenceOfGroup {σ : cS} {e : Nat} {g : Int} (hw : wf σ) (he : kd e = 0) (hg : rg g) : -400000000 ≤ (c_referenceOfGroup σ e g) ∧ (c_referenceOfGroup σ e g) < 400000000 := by
  unfold c_referenceOfGroup
  have r_9 := hw.ra2 (kE22 he) g
  have r_14 := r_componentAt (p := e + 1) (s := (rat (σ.1 (e + 22)) g)) (e := 0) (c := 0) hw (kE1 he) (by omega) (by omega) (by omega)
  omega
def c_referenceOfMessage (σ : cS) (e : Nat) (j : Int) : Int := (c_componentAt σ (e + 1) (rat (σ.1 (e + 12)) j) 0 0)
theorem t_referenceOfMessage {l : Launch} {G : jG} {d : Nat} {σ : cS} {e : Nat} {j : Int} (hw : wf σ) (hd : 3 ≤ d) (he : kd e = 0) (hj : rg j) : CJ jCls jown l G (Yx mX0_referenceOfMessage) d 0 0 0 [some (.ref e), some (vi j)] [] σ (det (some (vi (c_referenceOfMessage σ e j))) σ) := by
  refine C_aload_n dX0_referenceOfMessage_0 rfl ?_
  refine C_get dX0_referenceOfMessage_1 f_X0_12 (fun h hc => ⟨_, hc.2.2.1 _ he, rfl⟩) ?_
  refine C_aload_n dX0_referenceOfMessage_4 rfl ?_
  refine C_get dX0_referenceOfMessage_5 f_X0_23 (fun h hc => ⟨_, hc.2.2.1 _ he, rfl⟩) ?_
  refine C_iload_n dX0_referenceOfMessage_8 rfl ?_
  refine D_callV (As := [vi _]) (d' := 0) (row_at hw (kE12 he) (by omega)) dX0_referenceOfMessage_9 v_X0_93 (fun h hc => ⟨_, (hc.1 _ (kE12 he)).1⟩) rfl (Nat.le_of_ble_eq_true rfl) (by omega) (Nat.le_of_ble_eq_true rfl) ?_
  simp only [Option.toList, List.nil_append, List.cons_append]
  have r_9 := hw.ra2 (kE12 he) j
  refine C_iconst dX0_referenceOfMessage_12 ?_
  refine C_iconst dX0_referenceOfMessage_13 ?_
  refine D_callV (As := [vi _, vi _, vi _]) (d' := 2) (t_componentAt hw (Nat.le_refl _) (kE1 he) (by omega) (by omega) (by omega)) dX0_referenceOfMessage_14 v_X0_96 (fun h hc => ⟨_, hc.2.1 _ (kE1 he)⟩) rfl (Nat.le_of_ble_eq_true rfl) (by omega) (Nat.le_of_ble_eq_true rfl) ?_
  simp only [Option.toList, List.nil_append, List.cons_append]
  have r_14 := r_componentAt (p := e + 1) (s := (rat (σ.1 (e + 12)) j)) (e := 0) (c := 0) hw (kE1 he) (by omega) (by omega) (by omega)
  refine C_iret dX0_referenceOfMessage_17 rfl ?_
  unfold det; rw [c_referenceOfMessage]; exact ⟨rfl, rfl⟩
theorem r_referenceOfMessage {σ : cS} {e : Nat} {j : Int} (hw : wf σ) (he : kd e = 0) (hj : rg j) : -400000000 ≤ (c_referenceOfMessage σ e j) ∧ (c_referenceOfMessage σ e j) < 400000000 := by
  unfold c_referenceOfMessage
  have r_9 := hw.ra2 (kE12 he) j
  have r_14 := r_componentAt (p := e + 1) (s := (rat (σ.1 (e + 12)) j)) (e := 0) (c := 0) hw (kE1 he) (by omega) (by omega) (by omega)
  omega
def c_typeOf (σ : cS) (e : Nat) (j : Int) : Int := (if (c_widthOf σ (e + 1) (c_componentAt σ (e + 1) (rat (σ.1 (e + 12)) j) 1 0)) = 1 then (if (c_isDigit σ (c_characterOf σ (e + 1) (c_componentAt σ (e + 1) (rat (σ.1 (e + 12)) j) 1 0) 0)) = true then ((c_characterOf σ (e + 1) (c_componentAt σ (e + 1) (rat (σ.1 (e + 12)) j) 1 0) 0) - 48) else (-1)) else (-1))
theorem t_typeOf {l : Launch} {G : jG} {d : Nat} {σ : cS} {e : Nat} {j : Int} (hw : wf σ) (hd : 3 ≤ d) (he : kd e = 0) (hj : rg j) : CJ jCls jown l G (Yx mX0_typeOf) d 0 0 0 [some (.ref e), some (vi j), none, none] [] σ (det (some (vi (c_typeOf σ e j))) σ) := by
  refine C_aload_n dX0_typeOf_0 rfl ?_
  refine C_get dX0_typeOf_1 f_X0_12 (fun h hc => ⟨_, hc.2.2.1 _ he, rfl⟩) ?_
  refine C_aload_n dX0_typeOf_4 rfl ?_
  refine C_get dX0_typeOf_5 f_X0_23 (fun h hc => ⟨_, hc.2.2.1 _ he, rfl⟩) ?_
  refine C_iload_n dX0_typeOf_8 rfl ?_
  refine D_callV (As := [vi _]) (d' := 0) (row_at hw (kE12 he) (by omega)) dX0_typeOf_9 v_X0_93 (fun h hc => ⟨_, (hc.1 _ (kE12 he)).1⟩) rfl (Nat.le_of_ble_eq_true rfl) (by omega) (Nat.le_of_ble_eq_true rfl) ?_
  simp only [Option.toList, List.nil_append, List.cons_append]
  have r_9 := hw.ra2 (kE12 he) j
  refine C_iconst dX0_typeOf_12 ?_
  refine C_iconst dX0_typeOf_13 ?_
  refine D_callV (As := [vi _, vi _, vi _]) (d' := 2) (t_componentAt hw (Nat.le_refl _) (kE1 he) (by omega) (by omega) (by omega)) dX0_typeOf_14 v_X0_96 (fun h hc => ⟨_, hc.2.1 _ (kE1 he)⟩) rfl (Nat.le_of_ble_eq_true rfl) (by omega) (Nat.le_of_ble_eq_true rfl) ?_
  simp only [Option.toList, List.nil_append, List.cons_append]
  have r_14 := r_componentAt (p := e + 1) (s := (rat (σ.1 (e + 12)) j)) (e := 1) (c := 0) hw (kE1 he) (by omega) (by omega) (by omega)
  refine C_istore_n dX0_typeOf_17 (by decide) rfl ?_
  simp only [List.set_cons_zero, List.set_cons_succ, jfin0, jfin1, jfin2, jfin3]
  refine C_aload_n dX0_typeOf_18 rfl ?_
  refine C_get dX0_typeOf_19 f_X0_12 (fun h hc => ⟨_, hc.2.2.1 _ he, rfl⟩) ?_
  refine C_iload_n dX0_typeOf_22 rfl ?_
  refine C_iconst dX0_typeOf_23 ?_
  refine D_callV (As := [vi _, vi _]) (d' := 2) (t_characterOf hw (Nat.le_refl _) (kE1 he) (by omega) (by omega)) dX0_typeOf_24 v_X0_100 (fun h hc => ⟨_, hc.2.1 _ (kE1 he)⟩) rfl (Nat.le_of_ble_eq_true rfl) (by omega) (Nat.le_of_ble_eq_true rfl) ?_
  simp only [Option.toList, List.nil_append, List.cons_append]
  have r_24 := r_characterOf (p := e + 1) (k := (c_componentAt σ (e + 1) (rat (σ.1 (e + 12)) j) 1 0)) (i := 0) hw (kE1 he) (by omega) (by omega)
  refine C_istore_n dX0_typeOf_27 (by decide) rfl ?_
  simp only [List.set_cons_zero, List.set_cons_succ, jfin0, jfin1, jfin2, jfin3]
  refine C_aload_n dX0_typeOf_28 rfl ?_
  refine C_get dX0_typeOf_29 f_X0_12 (fun h hc => ⟨_, hc.2.2.1 _ he, rfl⟩) ?_
  refine C_iload_n dX0_typeOf_32 rfl ?_
  refine D_callV (As := [vi _]) (d' := 1) (t_widthOf hw (Nat.le_refl _) (kE1 he) (by omega)) dX0_typeOf_33 v_X0_104 (fun h hc => ⟨_, hc.2.1 _ (kE1 he)⟩) rfl (Nat.le_of_ble_eq_true rfl) (by omega) (Nat.le_of_ble_eq_true rfl) ?_
  simp only [Option.toList, List.nil_append, List.cons_append]
  have r_33 := r_widthOf (p := e + 1) (k := (c_componentAt σ (e + 1) (rat (σ.1 (e + 12)) j) 1 0)) hw (kE1 he) (by omega)
  refine C_iconst dX0_typeOf_36 ?_
  refine C_icmp_ne (tgt := 54) dX0_typeOf_37 (by decide) (by omega) (by omega) (fun c_37 => ?_) (fun c_37 => ?_)
  · refine C_iconst dX0_typeOf_54 ?_
    refine C_iret dX0_typeOf_55 rfl ?_
    unfold det; rw [c_typeOf, if_neg (by omega)]; exact ⟨rfl, rfl⟩
  · refine C_iload_n dX0_typeOf_40 rfl ?_
    refine D_callSN (As := [vi _]) (d' := 0) (t_isDigit hw (Nat.le_refl _) (by omega)) dX0_typeOf_41 s_X0_107 rfl (Nat.le_of_ble_eq_true rfl) (by omega) (Nat.le_of_ble_eq_true rfl) ?_
    simp only [Option.toList, List.nil_append, List.cons_append]
    refine C_if_eqZ (tgt := 54) dX0_typeOf_44 (by decide) (fun c_44 => ?_) (fun c_44 => ?_)
    · refine C_iconst dX0_typeOf_54 ?_
      refine C_iret dX0_typeOf_55 rfl ?_
      unfold det; rw [c_typeOf, if_pos (by omega), if_neg (by rw [c_44]; decide)]; exact ⟨rfl, rfl⟩
    · have b_44_2 := isDigit_t (σ := _) (c := (c_characterOf σ (e + 1) (c_componentAt σ (e + 1) (rat (σ.1 (e + 12)) j) 1 0) 0)) (by assumption)
      refine C_iload_n dX0_typeOf_47 rfl ?_
      refine C_bipush dX0_typeOf_48 (by decide) ?_
      refine C_isub dX0_typeOf_50 ?_
      refine C_goto (tgt := 55) dX0_typeOf_51 (by decide) ?_
      refine C_iret dX0_typeOf_55 rfl ?_
      unfold det; rw [c_typeOf, if_pos (by omega), if_pos c_44]; exact ⟨rfl, rfl⟩
theorem r_typeOf {σ : cS} {e : Nat} {j : Int} (hw : wf σ) (he : kd e = 0) (hj : rg j) : -1 ≤ (c_typeOf σ e j) ∧ (c_typeOf σ e j) < 10 := by
  unfold c_typeOf
  split
  · split
    · have r_9 := hw.ra2 (kE12 he) j
      have r_14 := r_componentAt (p := e + 1) (s := (rat (σ.1 (e + 12)) j)) (e := 1) (c := 0) hw (kE1 he) (by omega) (by omega) (by omega)
      have r_24 := r_characterOf (p := e + 1) (k := (c_componentAt σ (e + 1) (rat (σ.1 (e + 12)) j) 1 0)) (i := 0) hw (kE1 he) (by omega) (by omega)
      have r_33 := r_widthOf (p := e + 1) (k := (c_componentAt σ (e + 1) (rat (σ.1 (e + 12)) j) 1 0)) hw (kE1 he) (by omega)
      have b_44_2 := isDigit_t (σ := _) (c := (c_characterOf σ (e + 1) (c_componentAt σ (e + 1) (rat (σ.1 (e + 12)) j) 1 0) 0)) (by assumption)
      omega
    · have r_9 := hw.ra2 (kE12 he) j
      have r_14 := r_componentAt (p := e + 1) (s := (rat (σ.1 (e + 12)) j)) (e := 1) (c := 0) hw (kE1 he) (by omega) (by omega) (by omega)
      have r_24 := r_characterOf (p := e + 1) (k := (c_componentAt σ (e + 1) (rat (σ.1 (e + 12)) j) 1 0)) (i := 0) hw (kE1 he) (by omega) (by omega)
      have r_33 := r_widthOf (p := e + 1) (k := (c_componentAt σ (e + 1) (rat (σ.1 (e + 12)) j) 1 0)) hw (kE1 he) (by omega)
      omega
  · have r_9 := hw.ra2 (kE12 he) j
    have r_14 := r_componentAt (p := e + 1) (s := (rat (σ.1 (e + 12)) j)) (e := 1) (c := 0) hw (kE1 he) (by omega) (by omega) (by omega)
    have r_24 := r_characterOf (p := e + 1) (k := (c_componentAt σ (e + 1) (rat (σ.1 (e + 12)) j) 1 0)) (i := 0) hw (kE1 he) (by omega) (by omega)
    have r_33 := r_widthOf (p := e + 1) (k := (c_componentAt σ (e + 1) (rat (σ.1 (e + 12)) j) 1 0)) hw (kE1 he) (by omega)
    omega
def c_isRightReference (σ : cS) (e : Nat) (a : Int) (n : Int) : Bool := (if (c_widthOf σ (e + 1) a) ≤ 0 then false else (if (c_areSame σ (e + 1) a (c_componentAt σ (e + 1) n 1 0)) = true then true else false))
theorem t_isRightReference {l : Launch} {G : jG} {d : Nat} {σ : cS} {e : Nat} {a : Int} {n : Int} (hw : wf σ) (hd : 3 ≤ d) (he : kd e = 0) (ha : -1000000000 ≤ a ∧ a < 1000000000) (hn : -1000000000 ≤ n ∧ n < 1000000000) : CJ jCls jown l G (Yx mX0_isRightReference) d 0 0 0 [some (.ref e), some (vi a), some (vi n)] [] σ (det (some (vi (bz (c_isRightReference σ e a n)))) σ) := by
  refine C_aload_n dX0_isRightReference_0 rfl ?_
  refine C_get dX0_isRightReference_1 f_X0_12 (fun h hc => ⟨_, hc.2.2.1 _ he, rfl⟩) ?_
  refine C_iload_n dX0_isRightReference_4 rfl ?_
  refine D_callV (As := [vi _]) (d' := 1) (t_widthOf hw (Nat.le_refl _) (kE1 he) (by omega)) dX0_isRightReference_5 v_X0_104 (fun h hc => ⟨_, hc.2.1 _ (kE1 he)⟩) rfl (Nat.le_of_ble_eq_true rfl) (by omega) (Nat.le_of_ble_eq_true rfl) ?_
  simp only [Option.toList, List.nil_append, List.cons_append]
  have r_5 := r_widthOf (p := e + 1) (k := a) hw (kE1 he) (by omega)
  refine C_if_le (tgt := 36) dX0_isRightReference_8 (by decide) (by omega) (fun c_8 => ?_) (fun c_8 => ?_)
  · refine C_iconst dX0_isRightReference_36 ?_
    refine C_zret dX0_isRightReference_37 rfl (by first | exact Or.inl rfl | exact Or.inr rfl | exact bz_01 _) ?_
    unfold det; rw [c_isRightReference, if_pos (by omega)]; exact ⟨rfl, rfl⟩
  · refine C_aload_n dX0_isRightReference_11 rfl ?_
    refine C_get dX0_isRightReference_12 f_X0_12 (fun h hc => ⟨_, hc.2.2.1 _ he, rfl⟩) ?_
    refine C_iload_n dX0_isRightReference_15 rfl ?_
    refine C_aload_n dX0_isRightReference_16 rfl ?_
    refine C_get dX0_isRightReference_17 f_X0_12 (fun h hc => ⟨_, hc.2.2.1 _ he, rfl⟩) ?_
    refine C_iload_n dX0_isRightReference_20 rfl ?_
    refine C_iconst dX0_isRightReference_21 ?_
    refine C_iconst dX0_isRightReference_22 ?_
    refine D_callV (As := [vi _, vi _, vi _]) (d' := 2) (t_componentAt hw (Nat.le_refl _) (kE1 he) (by omega) (by omega) (by omega)) dX0_isRightReference_23 v_X0_96 (fun h hc => ⟨_, hc.2.1 _ (kE1 he)⟩) rfl (Nat.le_of_ble_eq_true rfl) (by omega) (Nat.le_of_ble_eq_true rfl) ?_
    simp only [Option.toList, List.nil_append, List.cons_append]
    have r_23 := r_componentAt (p := e + 1) (s := n) (e := 1) (c := 0) hw (kE1 he) (by omega) (by omega) (by omega)
    refine D_callV (As := [vi _, vi _]) (d' := 2) (t_areSame hw (Nat.le_refl _) (kE1 he) (by omega) (by omega)) dX0_isRightReference_26 v_X0_130 (fun h hc => ⟨_, hc.2.1 _ (kE1 he)⟩) rfl (Nat.le_of_ble_eq_true rfl) (by omega) (Nat.le_of_ble_eq_true rfl) ?_
    simp only [Option.toList, List.nil_append, List.cons_append]
    refine C_if_eqZ (tgt := 36) dX0_isRightReference_29 (by decide) (fun c_29 => ?_) (fun c_29 => ?_)
    · refine C_iconst dX0_isRightReference_36 ?_
      refine C_zret dX0_isRightReference_37 rfl (by first | exact Or.inl rfl | exact Or.inr rfl | exact bz_01 _) ?_
      unfold det; rw [c_isRightReference, if_neg (by omega), if_neg (by rw [c_29]; decide)]; exact ⟨rfl, rfl⟩
    · refine C_iconst dX0_isRightReference_32 ?_
      refine C_goto (tgt := 37) dX0_isRightReference_33 (by decide) ?_
      refine C_zret dX0_isRightReference_37 rfl (by first | exact Or.inl rfl | exact Or.inr rfl | exact bz_01 _) ?_
      unfold det; rw [c_isRightReference, if_neg (by omega), if_pos c_29]; exact ⟨rfl, rfl⟩
def c_isRightCount (σ : cS) (e : Nat) (n : Int) (u : Int) : Bool := (c_isNumber σ (e + 1) (c_componentAt σ (e + 1) n 0 0) u)
theorem t_isRightCount {l : Launch} {G : jG} {d : Nat} {σ : cS} {e : Nat} {n : Int} {u : Int} (hw : wf σ) (hd : 3 ≤ d) (he : kd e = 0) (hn : -1000000000 ≤ n ∧ n < 1000000000) (hu : rg u) : CJ jCls jown l G (Yx mX0_isRightCount) d 0 0 0 [some (.ref e), some (vi n), some (vi u)] [] σ (det (some (vi (bz (c_isRightCount σ e n u)))) σ) := by
  refine C_aload_n dX0_isRightCount_0 rfl ?_
  refine C_get dX0_isRightCount_1 f_X0_12 (fun h hc => ⟨_, hc.2.2.1 _ he, rfl⟩) ?_
  refine C_aload_n dX0_isRightCount_4 rfl ?_
  refine C_get dX0_isRightCount_5 f_X0_12 (fun h hc => ⟨_, hc.2.2.1 _ he, rfl⟩) ?_
  refine C_iload_n dX0_isRightCount_8 rfl ?_
  refine C_iconst dX0_isRightCount_9 ?_
  refine C_iconst dX0_isRightCount_10 ?_
  refine D_callV (As := [vi _, vi _, vi _]) (d' := 2) (t_componentAt hw (Nat.le_refl _) (kE1 he) (by omega) (by omega) (by omega)) dX0_isRightCount_11 v_X0_96 (fun h hc => ⟨_, hc.2.1 _ (kE1 he)⟩) rfl (Nat.le_of_ble_eq_true rfl) (by omega) (Nat.le_of_ble_eq_true rfl) ?_
  simp only [Option.toList, List.nil_append, List.cons_append]
  have r_11 := r_componentAt (p := e + 1) (s := n) (e := 0) (c := 0) hw (kE1 he) (by omega) (by omega) (by omega)
  refine C_iload_n dX0_isRightCount_14 rfl ?_
  refine D_callV (As := [vi _, vi _]) (d' := 2) (t_isNumber hw (Nat.le_refl _) (kE1 he) (by omega) (by omega)) dX0_isRightCount_15 v_X0_133 (fun h hc => ⟨_, hc.2.1 _ (kE1 he)⟩) rfl (Nat.le_of_ble_eq_true rfl) (by omega) (Nat.le_of_ble_eq_true rfl) ?_
  simp only [Option.toList, List.nil_append, List.cons_append]
  refine C_zret dX0_isRightCount_18 rfl (by first | exact Or.inl rfl | exact Or.inr rfl | exact bz_01 _) ?_
  unfold det; rw [c_isRightCount]; exact ⟨rfl, rfl⟩
def c_codeOfEnd (σ : cS) (e : Nat) (a : Int) (n : Int) (u : Int) : Int := (if (c_isRightReference σ e a n) = true then (if (c_isRightCount σ e n u) = true then (0 + 0) else (0 + 2)) else (if (c_isRightCount σ e n u) = true then (1 + 0) else (1 + 2)))
theorem t_codeOfEnd {l : Launch} {G : jG} {d : Nat} {σ : cS} {e : Nat} {a : Int} {n : Int} {u : Int} (hw : wf σ) (hd : 4 ≤ d) (he : kd e = 0) (ha : -1000000000 ≤ a ∧ a < 1000000000) (hn : -1000000000 ≤ n ∧ n < 1000000000) (hu : rg u) : CJ jCls jown l G (Yx mX0_codeOfEnd) d 0 0 0 [some (.ref e), some (vi a), some (vi n), some (vi u)] [] σ (det (some (vi (c_codeOfEnd σ e a n u))) σ) := by
  refine C_aload_n dX0_codeOfEnd_0 rfl ?_
  refine C_iload_n dX0_codeOfEnd_1 rfl ?_
  refine C_iload_n dX0_codeOfEnd_2 rfl ?_
  refine D_callV (As := [vi _, vi _]) (d' := 3) (t_isRightReference hw (Nat.le_refl _) he (by omega) (by omega)) dX0_codeOfEnd_3 v_X0_123 (fun h hc => ⟨_, hc.2.2.1 _ he⟩) rfl (Nat.le_of_ble_eq_true rfl) (by omega) (Nat.le_of_ble_eq_true rfl) ?_
  simp only [Option.toList, List.nil_append, List.cons_append]
  refine C_if_eqZ (tgt := 13) dX0_codeOfEnd_6 (by decide) (fun c_6 => ?_) (fun c_6 => ?_)
  · refine C_iconst dX0_codeOfEnd_13 ?_
    refine C_aload_n dX0_codeOfEnd_14 rfl ?_
    refine C_iload_n dX0_codeOfEnd_15 rfl ?_
    refine C_iload_n dX0_codeOfEnd_16 rfl ?_
    refine D_callV (As := [vi _, vi _]) (d' := 3) (t_isRightCount hw (Nat.le_refl _) he (by omega) (by omega)) dX0_codeOfEnd_17 v_X0_127 (fun h hc => ⟨_, hc.2.2.1 _ he⟩) rfl (Nat.le_of_ble_eq_true rfl) (by omega) (Nat.le_of_ble_eq_true rfl) ?_
    simp only [Option.toList, List.nil_append, List.cons_append]
    refine C_if_eqZ (tgt := 27) dX0_codeOfEnd_20 (by decide) (fun c_20 => ?_) (fun c_20 => ?_)
    · refine C_iconst dX0_codeOfEnd_27 ?_
      refine C_iadd dX0_codeOfEnd_28 ?_
      refine C_iret dX0_codeOfEnd_29 rfl ?_
      unfold det; rw [c_codeOfEnd, if_neg (by rw [c_6]; decide), if_neg (by rw [c_20]; decide)]; exact ⟨rfl, rfl⟩
    · refine C_iconst dX0_codeOfEnd_23 ?_
      refine C_goto (tgt := 28) dX0_codeOfEnd_24 (by decide) ?_
      refine C_iadd dX0_codeOfEnd_28 ?_
      refine C_iret dX0_codeOfEnd_29 rfl ?_
      unfold det; rw [c_codeOfEnd, if_neg (by rw [c_6]; decide), if_pos c_20]; exact ⟨rfl, rfl⟩
  · refine C_iconst dX0_codeOfEnd_9 ?_
    refine C_goto (tgt := 14) dX0_codeOfEnd_10 (by decide) ?_
    refine C_aload_n dX0_codeOfEnd_14 rfl ?_
    refine C_iload_n dX0_codeOfEnd_15 rfl ?_
    refine C_iload_n dX0_codeOfEnd_16 rfl ?_
    refine D_callV (As := [vi _, vi _]) (d' := 3) (t_isRightCount hw (Nat.le_refl _) he (by omega) (by omega)) dX0_codeOfEnd_17 v_X0_127 (fun h hc => ⟨_, hc.2.2.1 _ he⟩) rfl (Nat.le_of_ble_eq_true rfl) (by omega) (Nat.le_of_ble_eq_true rfl) ?_
    simp only [Option.toList, List.nil_append, List.cons_append]
    refine C_if_eqZ (tgt := 27) dX0_codeOfEnd_20 (by decide) (fun c_20 => ?_) (fun c_20 => ?_)
    · refine C_iconst dX0_codeOfEnd_27 ?_
      refine C_iadd dX0_codeOfEnd_28 ?_
      refine C_iret dX0_codeOfEnd_29 rfl ?_
      unfold det; rw [c_codeOfEnd, if_pos c_6, if_neg (by rw [c_20]; decide)]; exact ⟨rfl, rfl⟩
    · refine C_iconst dX0_codeOfEnd_23 ?_
      refine C_goto (tgt := 28) dX0_codeOfEnd_24 (by decide) ?_
      refine C_iadd dX0_codeOfEnd_28 ?_
      refine C_iret dX0_codeOfEnd_29 rfl ?_
      unfold det; rw [c_codeOfEnd, if_pos c_6, if_pos c_20]; exact ⟨rfl, rfl⟩
theorem r_codeOfEnd {σ : cS} {e : Nat} {a : Int} {n : Int} {u : Int} (hw : wf σ) (he : kd e = 0) (ha : -1000000000 ≤ a ∧ a < 1000000000) (hn : -1000000000 ≤ n ∧ n < 1000000000) (hu : rg u) : 0 ≤ (c_codeOfEnd σ e a n u) ∧ (c_codeOfEnd σ e a n u) < 4 := by
  unfold c_codeOfEnd
  split
  · split
    · omega
    · omega
  · split
    · omega
    · omega
def c_note (σ : cS) (e : Nat) (j : Int) (c : Int) (x : Int) : cS := (cput (cput σ (e + 18) j c) (e + 20) j x)
theorem t_note {l : Launch} {G : jG} {d : Nat} {σ : cS} {e : Nat} {j : Int} {c : Int} {x : Int} (hw : wf σ) (hd : 1 ≤ d) (he : kd e = 0) (hj : rg j) (hc : -3000 ≤ c ∧ c < 100000000) (hx : -3000 ≤ x ∧ x < 100000000) : CJ jCls jown l G (Yx mX0_note) d 0 0 0 [some (.ref e), some (vi j), some (vi c), some (vi x)] [] σ (det none (c_note σ e j c x)) := by
  refine C_aload_n dX0_note_0 rfl ?_
  refine C_get dX0_note_1 f_X0_33 (fun h hc => ⟨_, hc.2.2.1 _ he, rfl⟩) ?_
  refine C_iload_n dX0_note_4 rfl ?_
  refine C_iload_n dX0_note_5 rfl ?_
  refine D_callV (As := [vi _, vi _]) (d' := 0) (row_put hw (kE18 he) (by omega) (by omega)) dX0_note_6 v_X0_119 (fun h hc => ⟨_, (hc.1 _ (kE18 he)).1⟩) rfl (Nat.le_of_ble_eq_true rfl) (by omega) (Nat.le_of_ble_eq_true rfl) ?_
  simp only [Option.toList, List.nil_append, List.cons_append]
  have hw1 : wf (cput σ (e + 18) j c) := wf_put hw (by omega)
  refine C_aload_n dX0_note_9 rfl ?_
  refine C_get dX0_note_10 f_X0_36 (fun h hc => ⟨_, hc.2.2.1 _ he, rfl⟩) ?_
  refine C_iload_n dX0_note_13 rfl ?_
  refine C_iload_n dX0_note_14 rfl ?_
  refine D_callV (As := [vi _, vi _]) (d' := 0) (row_put hw1 (kE20 he) (by omega) (by omega)) dX0_note_15 v_X0_119 (fun h hc => ⟨_, (hc.1 _ (kE20 he)).1⟩) rfl (Nat.le_of_ble_eq_true rfl) (by omega) (Nat.le_of_ble_eq_true rfl) ?_
  simp only [Option.toList, List.nil_append, List.cons_append]
  have hw2 : wf (cput (cput σ (e + 18) j c) (e + 20) j x) := wf_put hw1 (by omega)
  refine C_vret dX0_note_18 rfl ⟨rfl, ?_⟩
  rw [c_note]
theorem w_note {σ : cS} {e : Nat} {j : Int} {c : Int} {x : Int} (hw : wf σ) (he : kd e = 0) (hj : rg j) (hc : -3000 ≤ c ∧ c < 100000000) (hx : -3000 ≤ x ∧ x < 100000000) : wf (c_note σ e j c x) := by
  unfold c_note
  have hw1 : wf (cput σ (e + 18) j c) := wf_put hw (by omega)
  have hw2 : wf (cput (cput σ (e + 18) j c) (e + 20) j x) := wf_put hw1 (by omega)
  exact hw2
theorem i_note {σ : cS} {e : Nat} {j : Int} {c : Int} {x : Int} : (c_note σ e j c x).2 = σ.2 := by
  unfold c_note
  (repeat' split) <;> simp [cadd, cput, cemp, i_addCharacter, i_addComponent, i_addElement, i_addSegment, i_finish, i_pempty, i_tadd]
def c_eempty (σ : cS) (e : Nat) : cS := (cemp (cemp (cemp (cemp (cemp (cemp (cemp (cemp (cemp σ (e + 12)) (e + 14)) (e + 16)) (e + 18)) (e + 20)) (e + 22)) (e + 24)) (e + 26)) (e + 28))
theorem t_eempty {l : Launch} {G : jG} {d : Nat} {σ : cS} {e : Nat} (hw : wf σ) (hd : 1 ≤ d) (he : kd e = 0) : CJ jCls jown l G (Yx mX0_empty) d 0 0 0 [some (.ref e)] [] σ (det none (c_eempty σ e)) := by
  refine C_aload_n dX0_empty_0 rfl ?_
  refine C_get dX0_empty_1 f_X0_23 (fun h hc => ⟨_, hc.2.2.1 _ he, rfl⟩) ?_
  refine D_callV (As := []) (d' := 0) (row_empty hw (kE12 he)) dX0_empty_4 v_X0_83 (fun h hc => ⟨_, (hc.1 _ (kE12 he)).1⟩) rfl (Nat.le_of_ble_eq_true rfl) (by omega) (Nat.le_of_ble_eq_true rfl) ?_
  simp only [Option.toList, List.nil_append, List.cons_append]
  have hw1 : wf (cemp σ (e + 12)) := wf_emp hw
  refine C_aload_n dX0_empty_7 rfl ?_
  refine C_get dX0_empty_8 f_X0_27 (fun h hc => ⟨_, hc.2.2.1 _ he, rfl⟩) ?_
  refine D_callV (As := []) (d' := 0) (row_empty hw1 (kE14 he)) dX0_empty_11 v_X0_83 (fun h hc => ⟨_, (hc.1 _ (kE14 he)).1⟩) rfl (Nat.le_of_ble_eq_true rfl) (by omega) (Nat.le_of_ble_eq_true rfl) ?_
  simp only [Option.toList, List.nil_append, List.cons_append]
  have hw2 : wf (cemp (cemp σ (e + 12)) (e + 14)) := wf_emp hw1
  refine C_aload_n dX0_empty_14 rfl ?_
  refine C_get dX0_empty_15 f_X0_30 (fun h hc => ⟨_, hc.2.2.1 _ he, rfl⟩) ?_
  refine D_callV (As := []) (d' := 0) (row_empty hw2 (kE16 he)) dX0_empty_18 v_X0_83 (fun h hc => ⟨_, (hc.1 _ (kE16 he)).1⟩) rfl (Nat.le_of_ble_eq_true rfl) (by omega) (Nat.le_of_ble_eq_true rfl) ?_
  simp only [Option.toList, List.nil_append, List.cons_append]
  have hw3 : wf (cemp (cemp (cemp σ (e + 12)) (e + 14)) (e + 16)) := wf_emp hw2
  refine C_aload_n dX0_empty_21 rfl ?_
  refine C_get dX0_empty_22 f_X0_33 (fun h hc => ⟨_, hc.2.2.1 _ he, rfl⟩) ?_
  refine D_callV (As := []) (d' := 0) (row_empty hw3 (kE18 he)) dX0_empty_25 v_X0_83 (fun h hc => ⟨_, (hc.1 _ (kE18 he)).1⟩) rfl (Nat.le_of_ble_eq_true rfl) (by omega) (Nat.le_of_ble_eq_true rfl) ?_
  simp only [Option.toList, List.nil_append, List.cons_append]
  have hw4 : wf (cemp (cemp (cemp (cemp σ (e + 12)) (e + 14)) (e + 16)) (e + 18)) := wf_emp hw3
  refine C_aload_n dX0_empty_28 rfl ?_
  refine C_get dX0_empty_29 f_X0_36 (fun h hc => ⟨_, hc.2.2.1 _ he, rfl⟩) ?_
  refine D_callV (As := []) (d' := 0) (row_empty hw4 (kE20 he)) dX0_empty_32 v_X0_83 (fun h hc => ⟨_, (hc.1 _ (kE20 he)).1⟩) rfl (Nat.le_of_ble_eq_true rfl) (by omega) (Nat.le_of_ble_eq_true rfl) ?_
  simp only [Option.toList, List.nil_append, List.cons_append]
  have hw5 : wf (cemp (cemp (cemp (cemp (cemp σ (e + 12)) (e + 14)) (e + 16)) (e + 18)) (e + 20)) := wf_emp hw4
  refine C_aload_n dX0_empty_35 rfl ?_
  refine C_get dX0_empty_36 f_X0_39 (fun h hc => ⟨_, hc.2.2.1 _ he, rfl⟩) ?_
  refine D_callV (As := []) (d' := 0) (row_empty hw5 (kE22 he)) dX0_empty_39 v_X0_83 (fun h hc => ⟨_, (hc.1 _ (kE22 he)).1⟩) rfl (Nat.le_of_ble_eq_true rfl) (by omega) (Nat.le_of_ble_eq_true rfl) ?_
  simp only [Option.toList, List.nil_append, List.cons_append]
  have hw6 : wf (cemp (cemp (cemp (cemp (cemp (cemp σ (e + 12)) (e + 14)) (e + 16)) (e + 18)) (e + 20)) (e + 22)) := wf_emp hw5
  refine C_aload_n dX0_empty_42 rfl ?_
  refine C_get dX0_empty_43 f_X0_42 (fun h hc => ⟨_, hc.2.2.1 _ he, rfl⟩) ?_
  refine D_callV (As := []) (d' := 0) (row_empty hw6 (kE24 he)) dX0_empty_46 v_X0_83 (fun h hc => ⟨_, (hc.1 _ (kE24 he)).1⟩) rfl (Nat.le_of_ble_eq_true rfl) (by omega) (Nat.le_of_ble_eq_true rfl) ?_
  simp only [Option.toList, List.nil_append, List.cons_append]
  have hw7 : wf (cemp (cemp (cemp (cemp (cemp (cemp (cemp σ (e + 12)) (e + 14)) (e + 16)) (e + 18)) (e + 20)) (e + 22)) (e + 24)) := wf_emp hw6
  refine C_aload_n dX0_empty_49 rfl ?_
  refine C_get dX0_empty_50 f_X0_45 (fun h hc => ⟨_, hc.2.2.1 _ he, rfl⟩) ?_
  refine D_callV (As := []) (d' := 0) (row_empty hw7 (kE26 he)) dX0_empty_53 v_X0_83 (fun h hc => ⟨_, (hc.1 _ (kE26 he)).1⟩) rfl (Nat.le_of_ble_eq_true rfl) (by omega) (Nat.le_of_ble_eq_true rfl) ?_
  simp only [Option.toList, List.nil_append, List.cons_append]
  have hw8 : wf (cemp (cemp (cemp (cemp (cemp (cemp (cemp (cemp σ (e + 12)) (e + 14)) (e + 16)) (e + 18)) (e + 20)) (e + 22)) (e + 24)) (e + 26)) := wf_emp hw7
  refine C_aload_n dX0_empty_56 rfl ?_
  refine C_get dX0_empty_57 f_X0_48 (fun h hc => ⟨_, hc.2.2.1 _ he, rfl⟩) ?_
  refine D_callV (As := []) (d' := 0) (row_empty hw8 (kE28 he)) dX0_empty_60 v_X0_83 (fun h hc => ⟨_, (hc.1 _ (kE28 he)).1⟩) rfl (Nat.le_of_ble_eq_true rfl) (by omega) (Nat.le_of_ble_eq_true rfl) ?_
  simp only [Option.toList, List.nil_append, List.cons_append]
  have hw9 : wf (cemp (cemp (cemp (cemp (cemp (cemp (cemp (cemp (cemp σ (e + 12)) (e + 14)) (e + 16)) (e + 18)) (e + 20)) (e + 22)) (e + 24)) (e + 26)) (e + 28)) := wf_emp hw8
  refine C_vret dX0_empty_63 rfl ⟨rfl, ?_⟩
  rw [c_eempty]
theorem w_eempty {σ : cS} {e : Nat} (hw : wf σ) (he : kd e = 0) : wf (c_eempty σ e) := by
  unfold c_eempty
  have hw1 : wf (cemp σ (e + 12)) := wf_emp hw
  have hw2 : wf (cemp (cemp σ (e + 12)) (e + 14)) := wf_emp hw1
  have hw3 : wf (cemp (cemp (cemp σ (e + 12)) (e + 14)) (e + 16)) := wf_emp hw2
  have hw4 : wf (cemp (cemp (cemp (cemp σ (e + 12)) (e + 14)) (e + 16)) (e + 18)) := wf_emp hw3
  have hw5 : wf (cemp (cemp (cemp (cemp (cemp σ (e + 12)) (e + 14)) (e + 16)) (e + 18)) (e + 20)) := wf_emp hw4
  have hw6 : wf (cemp (cemp (cemp (cemp (cemp (cemp σ (e + 12)) (e + 14)) (e + 16)) (e + 18)) (e + 20)) (e + 22)) := wf_emp hw5
  have hw7 : wf (cemp (cemp (cemp (cemp (cemp (cemp (cemp σ (e + 12)) (e + 14)) (e + 16)) (e + 18)) (e + 20)) (e + 22)) (e + 24)) := wf_emp hw6
  have hw8 : wf (cemp (cemp (cemp (cemp (cemp (cemp (cemp (cemp σ (e + 12)) (e + 14)) (e + 16)) (e + 18)) (e + 20)) (e + 22)) (e + 24)) (e + 26)) := wf_emp hw7
  have hw9 : wf (cemp (cemp (cemp (cemp (cemp (cemp (cemp (cemp (cemp σ (e + 12)) (e + 14)) (e + 16)) (e + 18)) (e + 20)) (e + 22)) (e + 24)) (e + 26)) (e + 28)) := wf_emp hw8
  exact hw9
theorem i_eempty {σ : cS} {e : Nat} : (c_eempty σ e).2 = σ.2 := by
  unfold c_eempty
  (repeat' split) <;> simp [cadd, cput, cemp, i_addCharacter, i_addComponent, i_addElement, i_addSegment, i_finish, i_note, i_pempty, i_tadd]
