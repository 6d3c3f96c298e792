def c_mcomponent (σ : mS) (s : Int) (e : Int) : Int := (if (mat (σ.2 26) (s + 1)) ≤ ((mat (σ.2 26) s) + e) then (-1) else (mat (σ.2 28) ((mat (σ.2 26) s) + e)))
theorem t_mcomponent {l : Launch} {G : jG} {d : Nat} {σ : mS} {s : Int} {e : Int} (hw : wfm σ) (hd : 0 ≤ d) (hs : 0 ≤ s ∧ s ≤ 40) (he : 0 ≤ e ∧ e ≤ 2) : CJ jMod mown l G (Yx mX7_component) d 0 0 0 [some (.ref 116), some (vi s), some (vi e), none] [] σ (det (some (vi (c_mcomponent σ s e))) σ) := by
  refine C_aload_n dX7_component_0 rfl ?_
  refine C_get (v := .ref 130) dX7_component_1 f_X7_54 (fun h hc => ⟨_, hc.1, rfl⟩) ?_
  refine C_iload_n dX7_component_4 rfl ?_
  refine C_iald (v := vi (mat (σ.2 26) s)) dX7_component_5 (by omega) (by omega) (fun h hc => hc.rd26 hw (by omega) (by omega)) ?_
  have e_5 := hw.a26 s
  refine C_iload_n dX7_component_6 rfl ?_
  refine C_iadd dX7_component_7 ?_
  refine C_istore_n dX7_component_8 (by decide) rfl ?_
  simp only [List.set_cons_zero, List.set_cons_succ, jfin0, jfin1, jfin2, jfin3]
  refine C_iload_n dX7_component_9 rfl ?_
  refine C_aload_n dX7_component_10 rfl ?_
  refine C_get (v := .ref 130) dX7_component_11 f_X7_54 (fun h hc => ⟨_, hc.1, rfl⟩) ?_
  refine C_iload_n dX7_component_14 rfl ?_
  refine C_iconst dX7_component_15 ?_
  refine C_iadd dX7_component_16 ?_
  refine C_iald (v := vi (mat (σ.2 26) (s + 1))) dX7_component_17 (by omega) (by omega) (fun h hc => hc.rd26 hw (by omega) (by omega)) ?_
  have e_17 := hw.a26 (s + 1)
  refine C_icmp_ge (tgt := 30) dX7_component_18 (by decide) (by omega) (by omega) (fun c_18 => ?_) (fun c_18 => ?_)
  · refine C_iconst dX7_component_30 ?_
    refine C_iret dX7_component_31 rfl ?_
    unfold det; rw [c_mcomponent, if_pos (by omega)]; exact ⟨rfl, rfl⟩
  · refine C_aload_n dX7_component_21 rfl ?_
    refine C_get (v := .ref 131) dX7_component_22 f_X7_57 (fun h hc => ⟨_, hc.1, rfl⟩) ?_
    refine C_iload_n dX7_component_25 rfl ?_
    refine C_iald (v := vi (mat (σ.2 28) ((mat (σ.2 26) s) + e))) dX7_component_26 (by omega) (by omega) (fun h hc => hc.rd28 hw (by omega) (by omega)) ?_
    have e_26 := hw.a28 ((mat (σ.2 26) s) + e)
    refine C_goto (tgt := 31) dX7_component_27 (by decide) ?_
    refine C_iret dX7_component_31 rfl ?_
    unfold det; rw [c_mcomponent, if_neg (by omega)]; exact ⟨rfl, rfl⟩
theorem r_mcomponent {σ : mS} {s : Int} {e : Int} (hw : wfm σ) (hs : 0 ≤ s ∧ s ≤ 40) (he : 0 ≤ e ∧ e ≤ 2) : -1 ≤ (c_mcomponent σ s e) ∧ (c_mcomponent σ s e) < 122 := by
  unfold c_mcomponent
  split
  · have e_5 := hw.a26 s
    have e_17 := hw.a26 (s + 1)
    omega
  · have e_5 := hw.a26 s
    have e_17 := hw.a26 (s + 1)
    have e_26 := hw.a28 ((mat (σ.2 26) s) + e)
    omega
def c_msizeOf (σ : mS) (c : Int) : Int := (if 0 ≤ c then ((mat (σ.2 30) (c + 1)) - (mat (σ.2 30) c)) else 0)
theorem t_msizeOf {l : Launch} {G : jG} {d : Nat} {σ : mS} {c : Int} (hw : wfm σ) (hd : 0 ≤ d) (hc : -1 ≤ c ∧ c ≤ 122) : CJ jMod mown l G (Yx mX7_sizeOf) d 0 0 0 [some (.ref 116), some (vi c)] [] σ (det (some (vi (c_msizeOf σ c))) σ) := by
  refine C_iload_n dX7_sizeOf_0 rfl ?_
  refine C_if_ge (tgt := 8) dX7_sizeOf_1 (by decide) (by omega) (fun c_1 => ?_) (fun c_1 => ?_)
  · refine C_aload_n dX7_sizeOf_8 rfl ?_
    refine C_get (v := .ref 132) dX7_sizeOf_9 f_X7_60 (fun h hc => ⟨_, hc.1, rfl⟩) ?_
    refine C_iload_n dX7_sizeOf_12 rfl ?_
    refine C_iconst dX7_sizeOf_13 ?_
    refine C_iadd dX7_sizeOf_14 ?_
    refine C_iald (v := vi (mat (σ.2 30) (c + 1))) dX7_sizeOf_15 (by omega) (by omega) (fun h hc => hc.rd30 hw (by omega) (by omega)) ?_
    have e_15 := hw.a30 (c + 1)
    refine C_aload_n dX7_sizeOf_16 rfl ?_
    refine C_get (v := .ref 132) dX7_sizeOf_17 f_X7_60 (fun h hc => ⟨_, hc.1, rfl⟩) ?_
    refine C_iload_n dX7_sizeOf_20 rfl ?_
    refine C_iald (v := vi (mat (σ.2 30) c)) dX7_sizeOf_21 (by omega) (by omega) (fun h hc => hc.rd30 hw (by omega) (by omega)) ?_
    have e_21 := hw.a30 c
    refine C_isub dX7_sizeOf_22 ?_
    refine C_iret dX7_sizeOf_23 rfl ?_
    unfold det; rw [c_msizeOf, if_pos (by omega)]; exact ⟨rfl, rfl⟩
  · refine C_iconst dX7_sizeOf_4 ?_
    refine C_goto (tgt := 23) dX7_sizeOf_5 (by decide) ?_
    refine C_iret dX7_sizeOf_23 rfl ?_
    unfold det; rw [c_msizeOf, if_neg (by omega)]; exact ⟨rfl, rfl⟩
theorem r_msizeOf {σ : mS} {c : Int} (hw : wfm σ) (hc : -1 ≤ c ∧ c ≤ 122) : -400 ≤ (c_msizeOf σ c) ∧ (c_msizeOf σ c) < 401 := by
  unfold c_msizeOf
  split
  · have e_15 := hw.a30 (c + 1)
    have e_21 := hw.a30 c
    omega
  · omega
theorem ms_def (σ : mS) (c : Int) : (c < 0 ∧ c_msizeOf σ c = 0) ∨ (0 ≤ c ∧ c_msizeOf σ c = mat (σ.2 30) (c + 1) - mat (σ.2 30) c) := by
  unfold c_msizeOf
  split
  · right; exact ⟨by omega, rfl⟩
  · left; exact ⟨by omega, rfl⟩
def c_msameL (c : Int) (e : Int) : Nat → Int → Int → Int → mS → Bool
  | 0, _, _, _, σ => false
  | fu + 1, n, a, i, σ => (if n ≤ i then (decide (a = 1)) else (if a = 0 then (decide (a = 1)) else (if (mat (σ.2 31) ((mat (σ.2 30) c) + i)) = (mat (σ.2 31) ((mat (σ.2 30) e) + i)) then (c_msameL c e fu n 1 (i + 1) σ) else (c_msameL c e fu n 0 (i + 1) σ))))
def c_msame (σ : mS) (c : Int) (e : Int) : Bool := (if (c_msizeOf σ c) = (c_msizeOf σ e) then (c_msameL c e (401) (c_msizeOf σ c) 1 0 σ) else (c_msameL c e (401) (c_msizeOf σ c) 0 0 σ))
theorem t_msameL {l : Launch} {G : jG} {d : Nat} {σ : mS} {c : Int} {e : Int} {n a i : Int} (hw : wfm σ) (hd : 1 ≤ d) (hc : -1 ≤ c ∧ c ≤ 122) (he : -1 ≤ e ∧ e ≤ 122) (fu : Nat) (hn : -400 ≤ n ∧ n ≤ 400) (ha : 0 ≤ a ∧ a ≤ 1) (hi : 0 ≤ i ∧ i ≤ 400) (hs1 : n = c_msizeOf σ c) (hs2 : a = 1 → n = c_msizeOf σ e) (hm : 400 - i < (fu : Int)) : CJ jMod mown l G (Yx mX7_same) d 0 0 25 [some (.ref 116), some (vi c), some (vi e), some (vi n), some (vi a), some (vi i)] [] σ (det (some (vi (bz (c_msameL c e fu n a i σ)))) σ) := by
  induction fu generalizing σ n a i with
  | zero => have s1 := ms_def σ c; have s2 := ms_def σ e; have s3 := hw.a30 (c + 1); have s4 := hw.a30 (e + 1); exact absurd hm (by omega)
  | succ fu ih =>
    have s1 := ms_def σ c
    have s2 := ms_def σ e
    have s3 := hw.a30 (c + 1)
    have s4 := hw.a30 (e + 1)
    refine C_iload dX7_same_25 rfl ?_
    refine C_iload_n dX7_same_27 rfl ?_
    refine C_icmp_ge (tgt := 80) dX7_same_28 (by decide) (by omega) (by omega) (fun c_28 => ?_) (fun c_28 => ?_)
    · refine C_iload dX7_same_80 rfl ?_
      refine C_zretB dX7_same_82 rfl (by omega) ?_
      unfold det; rw [c_msameL, if_pos (by omega)]; exact ⟨rfl, rfl⟩
    · refine C_iload dX7_same_31 rfl ?_
      refine C_if_eq (tgt := 80) dX7_same_33 (by decide) (by omega) (fun c_33 => ?_) (fun c_33 => ?_)
      · refine C_iload dX7_same_80 rfl ?_
        refine C_zretB dX7_same_82 rfl (by omega) ?_
        unfold det; rw [c_msameL, if_neg (by omega), if_pos (by omega)]; exact ⟨rfl, rfl⟩
      · refine C_aload_n dX7_same_36 rfl ?_
        refine C_get (v := .ref 133) dX7_same_37 f_X7_63 (fun h hc => ⟨_, hc.1, rfl⟩) ?_
        refine C_aload_n dX7_same_40 rfl ?_
        refine C_get (v := .ref 132) dX7_same_41 f_X7_60 (fun h hc => ⟨_, hc.1, rfl⟩) ?_
        refine C_iload_n dX7_same_44 rfl ?_
        refine C_iald (v := vi (mat (σ.2 30) c)) dX7_same_45 (by omega) (by omega) (fun h hc => hc.rd30 hw (by omega) (by omega)) ?_
        have e_45 := hw.a30 c
        refine C_iload dX7_same_46 rfl ?_
        refine C_iadd dX7_same_48 ?_
        refine C_iald (v := vi (mat (σ.2 31) ((mat (σ.2 30) c) + i))) dX7_same_49 (by omega) (by omega) (fun h hc => hc.rd31 hw (by omega) (by omega)) ?_
        have e_49 := hw.a31 ((mat (σ.2 30) c) + i)
        refine C_aload_n dX7_same_50 rfl ?_
        refine C_get (v := .ref 133) dX7_same_51 f_X7_63 (fun h hc => ⟨_, hc.1, rfl⟩) ?_
        refine C_aload_n dX7_same_54 rfl ?_
        refine C_get (v := .ref 132) dX7_same_55 f_X7_60 (fun h hc => ⟨_, hc.1, rfl⟩) ?_
        refine C_iload_n dX7_same_58 rfl ?_
        refine C_iald (v := vi (mat (σ.2 30) e)) dX7_same_59 (by omega) (by omega) (fun h hc => hc.rd30 hw (by omega) (by omega)) ?_
        have e_59 := hw.a30 e
        refine C_iload dX7_same_60 rfl ?_
        refine C_iadd dX7_same_62 ?_
        refine C_iald (v := vi (mat (σ.2 31) ((mat (σ.2 30) e) + i))) dX7_same_63 (by omega) (by omega) (fun h hc => hc.rd31 hw (by omega) (by omega)) ?_
        have e_63 := hw.a31 ((mat (σ.2 30) e) + i)
        refine C_icmp_ne (tgt := 71) dX7_same_64 (by decide) (by omega) (by omega) (fun c_64 => ?_) (fun c_64 => ?_)
        · refine C_iconst dX7_same_71 ?_
          refine C_istore dX7_same_72 (by decide) rfl ?_
          simp only [List.set_cons_zero, List.set_cons_succ, jfin0, jfin1, jfin2, jfin3]
          refine C_iinc dX7_same_74 rfl (by decide) rfl ?_
          simp only [List.set_cons_zero, List.set_cons_succ]
          refine C_goto (tgt := 25) dX7_same_77 (by decide) ?_
          rw [c_msameL, if_neg (by omega), if_neg (by omega), if_neg (by omega)]
          refine CJ.mono (ls' := [some (.ref 116), some (vi c), some (vi e), some (vi n), some (vi 0), some (vi (i + 1))]) (lsub_ok (by repeat (first | exact trivial | refine ⟨rfl, ?_⟩))) (fun _ _ q => q) ?_
          exact ih hw (by omega) (by omega) (by omega) (by omega) (by omega) (by omega)
        · refine C_iconst dX7_same_67 ?_
          refine C_goto (tgt := 72) dX7_same_68 (by decide) ?_
          refine C_istore dX7_same_72 (by decide) rfl ?_
          simp only [List.set_cons_zero, List.set_cons_succ, jfin0, jfin1, jfin2, jfin3]
          refine C_iinc dX7_same_74 rfl (by decide) rfl ?_
          simp only [List.set_cons_zero, List.set_cons_succ]
          refine C_goto (tgt := 25) dX7_same_77 (by decide) ?_
          rw [c_msameL, if_neg (by omega), if_neg (by omega), if_pos (by omega)]
          refine CJ.mono (ls' := [some (.ref 116), some (vi c), some (vi e), some (vi n), some (vi 1), some (vi (i + 1))]) (lsub_ok (by repeat (first | exact trivial | refine ⟨rfl, ?_⟩))) (fun _ _ q => q) ?_
          exact ih hw (by omega) (by omega) (by omega) (by omega) (by omega) (by omega)
theorem t_msame {l : Launch} {G : jG} {d : Nat} {σ : mS} {c : Int} {e : Int} (hw : wfm σ) (hd : 1 ≤ d) (hc : -1 ≤ c ∧ c ≤ 122) (he : -1 ≤ e ∧ e ≤ 122) : CJ jMod mown l G (Yx mX7_same) d 0 0 0 [some (.ref 116), some (vi c), some (vi e), none, none, none] [] σ (det (some (vi (bz (c_msame σ c e)))) σ) := by
  refine C_aload_n dX7_same_0 rfl ?_
  refine C_iload_n dX7_same_1 rfl ?_
  refine D_callV (As := [vi _]) (d' := 0) (t_msizeOf hw (Nat.le_refl _) (by omega)) dX7_same_2 v_X7_202 (fun h hc => ⟨_, hc.1⟩) rfl (Nat.le_of_ble_eq_true rfl) (by omega) (Nat.le_of_ble_eq_true rfl) ?_
  simp only [Option.toList, List.nil_append, List.cons_append]
  have r_2 := r_msizeOf (c := c) hw (by omega)
  refine C_istore_n dX7_same_5 (by decide) rfl ?_
  simp only [List.set_cons_zero, List.set_cons_succ, jfin0, jfin1, jfin2, jfin3]
  refine C_iload_n dX7_same_6 rfl ?_
  refine C_aload_n dX7_same_7 rfl ?_
  refine C_iload_n dX7_same_8 rfl ?_
  refine D_callV (As := [vi _]) (d' := 0) (t_msizeOf hw (Nat.le_refl _) (by omega)) dX7_same_9 v_X7_202 (fun h hc => ⟨_, hc.1⟩) rfl (Nat.le_of_ble_eq_true rfl) (by omega) (Nat.le_of_ble_eq_true rfl) ?_
  simp only [Option.toList, List.nil_append, List.cons_append]
  have r_9 := r_msizeOf (c := e) hw (by omega)
  refine C_icmp_ne (tgt := 19) dX7_same_12 (by decide) (by omega) (by omega) (fun c_12 => ?_) (fun c_12 => ?_)
  · refine C_iconst dX7_same_19 ?_
    refine C_istore dX7_same_20 (by decide) rfl ?_
    simp only [List.set_cons_zero, List.set_cons_succ, jfin0, jfin1, jfin2, jfin3]
    refine C_iconst dX7_same_22 ?_
    refine C_istore dX7_same_23 (by decide) rfl ?_
    simp only [List.set_cons_zero, List.set_cons_succ, jfin0, jfin1, jfin2, jfin3]
    rw [c_msame, if_neg (by omega)]
    refine CJ.mono (ls' := [some (.ref 116), some (vi c), some (vi e), some (vi (c_msizeOf σ c)), some (vi 0), some (vi 0)]) (lsub_ok (by repeat (first | exact trivial | refine ⟨rfl, ?_⟩))) (fun _ _ q => q) ?_
    exact t_msameL hw hd hc he (401) (by omega) (by omega) (by omega) (by omega) (by omega) (by omega)
  · refine C_iconst dX7_same_15 ?_
    refine C_goto (tgt := 20) dX7_same_16 (by decide) ?_
    refine C_istore dX7_same_20 (by decide) rfl ?_
    simp only [List.set_cons_zero, List.set_cons_succ, jfin0, jfin1, jfin2, jfin3]
    refine C_iconst dX7_same_22 ?_
    refine C_istore dX7_same_23 (by decide) rfl ?_
    simp only [List.set_cons_zero, List.set_cons_succ, jfin0, jfin1, jfin2, jfin3]
    rw [c_msame, if_pos (by omega)]
    refine CJ.mono (ls' := [some (.ref 116), some (vi c), some (vi e), some (vi (c_msizeOf σ c)), some (vi 1), some (vi 0)]) (lsub_ok (by repeat (first | exact trivial | refine ⟨rfl, ?_⟩))) (fun _ _ q => q) ?_
    exact t_msameL hw hd hc he (401) (by omega) (by omega) (by omega) (by omega) (by omega) (by omega)
def c_misNumberL (c : Int) (v : Int) : Nat → Int → Int → Int → Int → Int → mS → Bool
  | 0, _, _, _, _, _, σ => false
  | fu + 1, n, f, r, z, i, σ => (if n ≤ i then (if z = 0 then false else (if r = v then true else false)) else (if z = 0 then (c_misNumberL c v fu n f (((10 * r) + (mat (σ.2 31) (f + i))) - 48) 0 (i + 1) σ) else (if (mat (σ.2 31) (f + i)) < 48 then (c_misNumberL c v fu n f (((10 * r) + (mat (σ.2 31) (f + i))) - 48) 0 (i + 1) σ) else (if 57 < (mat (σ.2 31) (f + i)) then (c_misNumberL c v fu n f (((10 * r) + (mat (σ.2 31) (f + i))) - 48) 0 (i + 1) σ) else (c_misNumberL c v fu n f (((10 * r) + (mat (σ.2 31) (f + i))) - 48) 1 (i + 1) σ)))))
def c_misNumber (σ : mS) (c : Int) (v : Int) : Bool := (if (c_msizeOf σ c) < 1 then false else (if (c_msizeOf σ c) ≤ 3 then (if (c_msizeOf σ c) = 1 then (c_misNumberL c v (4) (c_msizeOf σ c) (mat (σ.2 30) c) 0 1 0 σ) else (if (mat (σ.2 31) (mat (σ.2 30) c)) = 48 then (c_misNumberL c v (4) (c_msizeOf σ c) (mat (σ.2 30) c) 0 0 0 σ) else (c_misNumberL c v (4) (c_msizeOf σ c) (mat (σ.2 30) c) 0 1 0 σ))) else false))
theorem t_misNumberL {l : Launch} {G : jG} {d : Nat} {σ : mS} {c : Int} {v : Int} {n f r z i : Int} (hw : wfm σ) (hd : 1 ≤ d) (hc : -1 ≤ c ∧ c ≤ 122) (hv : rg v) (fu : Nat) (hn : 1 ≤ n ∧ n ≤ 3) (hf : 0 ≤ f ∧ f ≤ 400) (hr : -6000 ≤ r ∧ r ≤ 9000 ∧ (i = 0 → r = 0) ∧ (i = 1 → -48 ≤ r ∧ r ≤ 78) ∧ (i = 2 → -528 ≤ r ∧ r ≤ 858)) (hz : 0 ≤ z ∧ z ≤ 1) (hi : 0 ≤ i ∧ i ≤ 3) (hfn : f + n ≤ 400) (hm : 3 - i < (fu : Int)) : CJ jMod mown l G (Yx mX7_isNumber) d 0 0 56 [some (.ref 116), some (vi c), some (vi v), some (vi n), some (vi f), some (vi r), some (vi z), some (vi i), none] [] σ (det (some (vi (bz (c_misNumberL c v fu n f r z i σ)))) σ) := by
  induction fu generalizing σ n f r z i with
  | zero => exact absurd hm (by omega)
  | succ fu ih =>
    refine C_iload dX7_isNumber_56 rfl ?_
    refine C_iload_n dX7_isNumber_58 rfl ?_
    refine C_icmp_ge (tgt := 119) dX7_isNumber_59 (by decide) (by omega) (by omega) (fun c_59 => ?_) (fun c_59 => ?_)
    · refine C_iload dX7_isNumber_119 rfl ?_
      refine C_if_eq (tgt := 134) dX7_isNumber_121 (by decide) (by omega) (fun c_121 => ?_) (fun c_121 => ?_)
      · refine C_iconst dX7_isNumber_134 ?_
        refine C_zret dX7_isNumber_135 rfl (by first | exact Or.inl rfl | exact Or.inr rfl | exact bz_01 _) ?_
        unfold det; rw [c_misNumberL, if_pos (by omega), if_pos (by omega)]; exact ⟨rfl, rfl⟩
      · refine C_iload dX7_isNumber_124 rfl ?_
        refine C_iload_n dX7_isNumber_126 rfl ?_
        refine C_icmp_ne (tgt := 134) dX7_isNumber_127 (by decide) (by omega) (by omega) (fun c_127 => ?_) (fun c_127 => ?_)
        · refine C_iconst dX7_isNumber_134 ?_
          refine C_zret dX7_isNumber_135 rfl (by first | exact Or.inl rfl | exact Or.inr rfl | exact bz_01 _) ?_
          unfold det; rw [c_misNumberL, if_pos (by omega), if_neg (by omega), if_neg (by omega)]; exact ⟨rfl, rfl⟩
        · refine C_iconst dX7_isNumber_130 ?_
          refine C_goto (tgt := 135) dX7_isNumber_131 (by decide) ?_
          refine C_zret dX7_isNumber_135 rfl (by first | exact Or.inl rfl | exact Or.inr rfl | exact bz_01 _) ?_
          unfold det; rw [c_misNumberL, if_pos (by omega), if_neg (by omega), if_pos (by omega)]; exact ⟨rfl, rfl⟩
    · refine C_aload_n dX7_isNumber_62 rfl ?_
      refine C_get (v := .ref 133) dX7_isNumber_63 f_X7_63 (fun h hc => ⟨_, hc.1, rfl⟩) ?_
      refine C_iload dX7_isNumber_66 rfl ?_
      refine C_iload dX7_isNumber_68 rfl ?_
      refine C_iadd dX7_isNumber_70 ?_
      refine C_iald (v := vi (mat (σ.2 31) (f + i))) dX7_isNumber_71 (by omega) (by omega) (fun h hc => hc.rd31 hw (by omega) (by omega)) ?_
      have e_71 := hw.a31 (f + i)
      refine C_istore dX7_isNumber_72 (by decide) rfl ?_
      simp only [List.set_cons_zero, List.set_cons_succ, jfin0, jfin1, jfin2, jfin3]
      refine C_iload dX7_isNumber_74 rfl ?_
      refine C_if_eq (tgt := 97) dX7_isNumber_76 (by decide) (by omega) (fun c_76 => ?_) (fun c_76 => ?_)
      · refine C_iconst dX7_isNumber_97 ?_
        refine C_istore dX7_isNumber_98 (by decide) rfl ?_
        simp only [List.set_cons_zero, List.set_cons_succ, jfin0, jfin1, jfin2, jfin3]
        refine C_bipush dX7_isNumber_100 (by decide) ?_
        refine C_iload dX7_isNumber_102 rfl ?_
        refine C_imul dX7_isNumber_104 ?_
        refine C_iload dX7_isNumber_105 rfl ?_
        refine C_iadd dX7_isNumber_107 ?_
        refine C_bipush dX7_isNumber_108 (by decide) ?_
        refine C_isub dX7_isNumber_110 ?_
        refine C_istore dX7_isNumber_111 (by decide) rfl ?_
        simp only [List.set_cons_zero, List.set_cons_succ, jfin0, jfin1, jfin2, jfin3]
        refine C_iinc dX7_isNumber_113 rfl (by decide) rfl ?_
        simp only [List.set_cons_zero, List.set_cons_succ]
        refine C_goto (tgt := 56) dX7_isNumber_116 (by decide) ?_
        rw [c_misNumberL, if_neg (by omega), if_pos (by omega)]
        refine CJ.mono (ls' := [some (.ref 116), some (vi c), some (vi v), some (vi n), some (vi f), some (vi (((10 * r) + (mat (σ.2 31) (f + i))) - 48)), some (vi 0), some (vi (i + 1)), none]) (lsub_ok (by repeat (first | exact trivial | refine ⟨rfl, ?_⟩))) (fun _ _ q => q) ?_
        exact ih hw (by omega) (by omega) (by omega) (by omega) (by omega) (by omega) (by omega)
      · refine C_iload dX7_isNumber_79 rfl ?_
        refine C_bipush dX7_isNumber_81 (by decide) ?_
        refine C_icmp_lt (tgt := 97) dX7_isNumber_83 (by decide) (by omega) (by omega) (fun c_83 => ?_) (fun c_83 => ?_)
        · refine C_iconst dX7_isNumber_97 ?_
          refine C_istore dX7_isNumber_98 (by decide) rfl ?_
          simp only [List.set_cons_zero, List.set_cons_succ, jfin0, jfin1, jfin2, jfin3]
          refine C_bipush dX7_isNumber_100 (by decide) ?_
          refine C_iload dX7_isNumber_102 rfl ?_
          refine C_imul dX7_isNumber_104 ?_
          refine C_iload dX7_isNumber_105 rfl ?_
          refine C_iadd dX7_isNumber_107 ?_
          refine C_bipush dX7_isNumber_108 (by decide) ?_
          refine C_isub dX7_isNumber_110 ?_
          refine C_istore dX7_isNumber_111 (by decide) rfl ?_
          simp only [List.set_cons_zero, List.set_cons_succ, jfin0, jfin1, jfin2, jfin3]
          refine C_iinc dX7_isNumber_113 rfl (by decide) rfl ?_
          simp only [List.set_cons_zero, List.set_cons_succ]
          refine C_goto (tgt := 56) dX7_isNumber_116 (by decide) ?_
          rw [c_misNumberL, if_neg (by omega), if_neg (by omega), if_pos (by omega)]
          refine CJ.mono (ls' := [some (.ref 116), some (vi c), some (vi v), some (vi n), some (vi f), some (vi (((10 * r) + (mat (σ.2 31) (f + i))) - 48)), some (vi 0), some (vi (i + 1)), none]) (lsub_ok (by repeat (first | exact trivial | refine ⟨rfl, ?_⟩))) (fun _ _ q => q) ?_
          exact ih hw (by omega) (by omega) (by omega) (by omega) (by omega) (by omega) (by omega)
        · refine C_iload dX7_isNumber_86 rfl ?_
          refine C_bipush dX7_isNumber_88 (by decide) ?_
          refine C_icmp_gt (tgt := 97) dX7_isNumber_90 (by decide) (by omega) (by omega) (fun c_90 => ?_) (fun c_90 => ?_)
          · refine C_iconst dX7_isNumber_97 ?_
            refine C_istore dX7_isNumber_98 (by decide) rfl ?_
            simp only [List.set_cons_zero, List.set_cons_succ, jfin0, jfin1, jfin2, jfin3]
            refine C_bipush dX7_isNumber_100 (by decide) ?_
            refine C_iload dX7_isNumber_102 rfl ?_
            refine C_imul dX7_isNumber_104 ?_
            refine C_iload dX7_isNumber_105 rfl ?_
            refine C_iadd dX7_isNumber_107 ?_
            refine C_bipush dX7_isNumber_108 (by decide) ?_
            refine C_isub dX7_isNumber_110 ?_
            refine C_istore dX7_isNumber_111 (by decide) rfl ?_
            simp only [List.set_cons_zero, List.set_cons_succ, jfin0, jfin1, jfin2, jfin3]
            refine C_iinc dX7_isNumber_113 rfl (by decide) rfl ?_
            simp only [List.set_cons_zero, List.set_cons_succ]
            refine C_goto (tgt := 56) dX7_isNumber_116 (by decide) ?_
            rw [c_misNumberL, if_neg (by omega), if_neg (by omega), if_neg (by omega), if_pos (by omega)]
            refine CJ.mono (ls' := [some (.ref 116), some (vi c), some (vi v), some (vi n), some (vi f), some (vi (((10 * r) + (mat (σ.2 31) (f + i))) - 48)), some (vi 0), some (vi (i + 1)), none]) (lsub_ok (by repeat (first | exact trivial | refine ⟨rfl, ?_⟩))) (fun _ _ q => q) ?_
            exact ih hw (by omega) (by omega) (by omega) (by omega) (by omega) (by omega) (by omega)
          · refine C_iconst dX7_isNumber_93 ?_
            refine C_goto (tgt := 98) dX7_isNumber_94 (by decide) ?_
            refine C_istore dX7_isNumber_98 (by decide) rfl ?_
            simp only [List.set_cons_zero, List.set_cons_succ, jfin0, jfin1, jfin2, jfin3]
            refine C_bipush dX7_isNumber_100 (by decide) ?_
            refine C_iload dX7_isNumber_102 rfl ?_
            refine C_imul dX7_isNumber_104 ?_
            refine C_iload dX7_isNumber_105 rfl ?_
            refine C_iadd dX7_isNumber_107 ?_
            refine C_bipush dX7_isNumber_108 (by decide) ?_
            refine C_isub dX7_isNumber_110 ?_
            refine C_istore dX7_isNumber_111 (by decide) rfl ?_
            simp only [List.set_cons_zero, List.set_cons_succ, jfin0, jfin1, jfin2, jfin3]
            refine C_iinc dX7_isNumber_113 rfl (by decide) rfl ?_
            simp only [List.set_cons_zero, List.set_cons_succ]
            refine C_goto (tgt := 56) dX7_isNumber_116 (by decide) ?_
            rw [c_misNumberL, if_neg (by omega), if_neg (by omega), if_neg (by omega), if_neg (by omega)]
            refine CJ.mono (ls' := [some (.ref 116), some (vi c), some (vi v), some (vi n), some (vi f), some (vi (((10 * r) + (mat (σ.2 31) (f + i))) - 48)), some (vi 1), some (vi (i + 1)), none]) (lsub_ok (by repeat (first | exact trivial | refine ⟨rfl, ?_⟩))) (fun _ _ q => q) ?_
            exact ih hw (by omega) (by omega) (by omega) (by omega) (by omega) (by omega) (by omega)
theorem t_misNumber {l : Launch} {G : jG} {d : Nat} {σ : mS} {c : Int} {v : Int} (hw : wfm σ) (hd : 1 ≤ d) (hc : -1 ≤ c ∧ c ≤ 122) (hv : rg v) : CJ jMod mown l G (Yx mX7_isNumber) d 0 0 0 [some (.ref 116), some (vi c), some (vi v), none, none, none, none, none, none] [] σ (det (some (vi (bz (c_misNumber σ c v)))) σ) := by
  have s1 := ms_def σ c
  have s3 := hw.a30 (c + 1)
  refine C_aload_n dX7_isNumber_0 rfl ?_
  refine C_iload_n dX7_isNumber_1 rfl ?_
  refine D_callV (As := [vi _]) (d' := 0) (t_msizeOf hw (Nat.le_refl _) (by omega)) dX7_isNumber_2 v_X7_202 (fun h hc => ⟨_, hc.1⟩) rfl (Nat.le_of_ble_eq_true rfl) (by omega) (Nat.le_of_ble_eq_true rfl) ?_
  simp only [Option.toList, List.nil_append, List.cons_append]
  have r_2 := r_msizeOf (c := c) hw (by omega)
  refine C_istore_n dX7_isNumber_5 (by decide) rfl ?_
  simp only [List.set_cons_zero, List.set_cons_succ, jfin0, jfin1, jfin2, jfin3]
  refine C_iload_n dX7_isNumber_6 rfl ?_
  refine C_iconst dX7_isNumber_7 ?_
  refine C_icmp_lt (tgt := 16) dX7_isNumber_8 (by decide) (by omega) (by omega) (fun c_8 => ?_) (fun c_8 => ?_)
  · refine C_iconst dX7_isNumber_16 ?_
    refine C_zret dX7_isNumber_17 rfl (by first | exact Or.inl rfl | exact Or.inr rfl | exact bz_01 _) ?_
    unfold det; rw [c_misNumber, if_pos (by omega)]; exact ⟨rfl, rfl⟩
  · refine C_iload_n dX7_isNumber_11 rfl ?_
    refine C_iconst dX7_isNumber_12 ?_
    refine C_icmp_le (tgt := 18) dX7_isNumber_13 (by decide) (by omega) (by omega) (fun c_13 => ?_) (fun c_13 => ?_)
    · refine C_aload_n dX7_isNumber_18 rfl ?_
      refine C_get (v := .ref 132) dX7_isNumber_19 f_X7_60 (fun h hc => ⟨_, hc.1, rfl⟩) ?_
      refine C_iload_n dX7_isNumber_22 rfl ?_
      refine C_iald (v := vi (mat (σ.2 30) c)) dX7_isNumber_23 (by omega) (by omega) (fun h hc => hc.rd30 hw (by omega) (by omega)) ?_
      have e_23 := hw.a30 c
      refine C_istore dX7_isNumber_24 (by decide) rfl ?_
      simp only [List.set_cons_zero, List.set_cons_succ, jfin0, jfin1, jfin2, jfin3]
      refine C_iconst dX7_isNumber_26 ?_
      refine C_istore dX7_isNumber_27 (by decide) rfl ?_
      simp only [List.set_cons_zero, List.set_cons_succ, jfin0, jfin1, jfin2, jfin3]
      refine C_iload_n dX7_isNumber_29 rfl ?_
      refine C_iconst dX7_isNumber_30 ?_
      refine C_icmp_eq (tgt := 46) dX7_isNumber_31 (by decide) (by omega) (by omega) (fun c_31 => ?_) (fun c_31 => ?_)
      · refine C_iconst dX7_isNumber_46 ?_
        refine C_goto (tgt := 51) dX7_isNumber_47 (by decide) ?_
        refine C_istore dX7_isNumber_51 (by decide) rfl ?_
        simp only [List.set_cons_zero, List.set_cons_succ, jfin0, jfin1, jfin2, jfin3]
        refine C_iconst dX7_isNumber_53 ?_
        refine C_istore dX7_isNumber_54 (by decide) rfl ?_
        simp only [List.set_cons_zero, List.set_cons_succ, jfin0, jfin1, jfin2, jfin3]
        rw [c_misNumber, if_neg (by omega), if_pos (by omega), if_pos (by omega)]
        refine CJ.mono (ls' := [some (.ref 116), some (vi c), some (vi v), some (vi (c_msizeOf σ c)), some (vi (mat (σ.2 30) c)), some (vi 0), some (vi 1), some (vi 0), none]) (lsub_ok (by repeat (first | exact trivial | refine ⟨rfl, ?_⟩))) (fun _ _ q => q) ?_
        exact t_misNumberL hw hd hc hv (4) (by omega) (by omega) (by omega) (by omega) (by omega) (by omega) (by omega)
      · refine C_aload_n dX7_isNumber_34 rfl ?_
        refine C_get (v := .ref 133) dX7_isNumber_35 f_X7_63 (fun h hc => ⟨_, hc.1, rfl⟩) ?_
        refine C_iload dX7_isNumber_38 rfl ?_
        refine C_iald (v := vi (mat (σ.2 31) (mat (σ.2 30) c))) dX7_isNumber_40 (by omega) (by omega) (fun h hc => hc.rd31 hw (by omega) (by omega)) ?_
        have e_40 := hw.a31 (mat (σ.2 30) c)
        refine C_bipush dX7_isNumber_41 (by decide) ?_
        refine C_icmp_eq (tgt := 50) dX7_isNumber_43 (by decide) (by omega) (by omega) (fun c_43 => ?_) (fun c_43 => ?_)
        · refine C_iconst dX7_isNumber_50 ?_
          refine C_istore dX7_isNumber_51 (by decide) rfl ?_
          simp only [List.set_cons_zero, List.set_cons_succ, jfin0, jfin1, jfin2, jfin3]
          refine C_iconst dX7_isNumber_53 ?_
          refine C_istore dX7_isNumber_54 (by decide) rfl ?_
          simp only [List.set_cons_zero, List.set_cons_succ, jfin0, jfin1, jfin2, jfin3]
          rw [c_misNumber, if_neg (by omega), if_pos (by omega), if_neg (by omega), if_pos (by omega)]
          refine CJ.mono (ls' := [some (.ref 116), some (vi c), some (vi v), some (vi (c_msizeOf σ c)), some (vi (mat (σ.2 30) c)), some (vi 0), some (vi 0), some (vi 0), none]) (lsub_ok (by repeat (first | exact trivial | refine ⟨rfl, ?_⟩))) (fun _ _ q => q) ?_
          exact t_misNumberL hw hd hc hv (4) (by omega) (by omega) (by omega) (by omega) (by omega) (by omega) (by omega)
        · refine C_iconst dX7_isNumber_46 ?_
          refine C_goto (tgt := 51) dX7_isNumber_47 (by decide) ?_
          refine C_istore dX7_isNumber_51 (by decide) rfl ?_
          simp only [List.set_cons_zero, List.set_cons_succ, jfin0, jfin1, jfin2, jfin3]
          refine C_iconst dX7_isNumber_53 ?_
          refine C_istore dX7_isNumber_54 (by decide) rfl ?_
          simp only [List.set_cons_zero, List.set_cons_succ, jfin0, jfin1, jfin2, jfin3]
          rw [c_misNumber, if_neg (by omega), if_pos (by omega), if_neg (by omega), if_neg (by omega)]
          refine CJ.mono (ls' := [some (.ref 116), some (vi c), some (vi v), some (vi (c_msizeOf σ c)), some (vi (mat (σ.2 30) c)), some (vi 0), some (vi 1), some (vi 0), none]) (lsub_ok (by repeat (first | exact trivial | refine ⟨rfl, ?_⟩))) (fun _ _ q => q) ?_
          exact t_misNumberL hw hd hc hv (4) (by omega) (by omega) (by omega) (by omega) (by omega) (by omega) (by omega)
    · refine C_iconst dX7_isNumber_16 ?_
      refine C_zret dX7_isNumber_17 rfl (by first | exact Or.inl rfl | exact Or.inr rfl | exact bz_01 _) ?_
      unfold det; rw [c_misNumber, if_neg (by omega), if_neg (by omega)]; exact ⟨rfl, rfl⟩
def c_mcheck (σ : mS) (s : Int) (e : Int) (u : Int) (v : Int) : Int := (if (c_msizeOf σ (c_mcomponent σ u 1)) ≤ 0 then (if (c_misNumber σ (c_mcomponent σ u 0) v) = true then (1 + 0) else (1 + 2)) else (if (c_msame σ (c_mcomponent σ u 1) (c_mcomponent σ s e)) = true then (if (c_misNumber σ (c_mcomponent σ u 0) v) = true then (0 + 0) else (0 + 2)) else (if (c_misNumber σ (c_mcomponent σ u 0) v) = true then (1 + 0) else (1 + 2))))
theorem t_mcheck {l : Launch} {G : jG} {d : Nat} {σ : mS} {s : Int} {e : Int} {u : Int} {v : Int} (hw : wfm σ) (hd : 2 ≤ d) (hs : 0 ≤ s ∧ s ≤ 40) (he : 0 ≤ e ∧ e ≤ 2) (hu : 0 ≤ u ∧ u ≤ 40) (hv : rg v) : CJ jMod mown l G (Yx mX7_check) d 0 0 0 [some (.ref 116), some (vi s), some (vi e), some (vi u), some (vi v), none, none] [] σ (det (some (vi (c_mcheck σ s e u v))) σ) := by
  refine C_aload_n dX7_check_0 rfl ?_
  refine C_iload_n dX7_check_1 rfl ?_
  refine C_iconst dX7_check_2 ?_
  refine D_callV (As := [vi _, vi _]) (d' := 0) (t_mcomponent hw (Nat.le_refl _) (by omega) (by omega)) dX7_check_3 v_X7_205 (fun h hc => ⟨_, hc.1⟩) rfl (Nat.le_of_ble_eq_true rfl) (by omega) (Nat.le_of_ble_eq_true rfl) ?_
  simp only [Option.toList, List.nil_append, List.cons_append]
  have r_3 := r_mcomponent (s := u) (e := 1) hw (by omega) (by omega)
  refine C_istore dX7_check_6 (by decide) rfl ?_
  simp only [List.set_cons_zero, List.set_cons_succ, jfin0, jfin1, jfin2, jfin3]
  refine C_aload_n dX7_check_8 rfl ?_
  refine C_iload dX7_check_9 rfl ?_
  refine D_callV (As := [vi _]) (d' := 0) (t_msizeOf hw (Nat.le_refl _) (by omega)) dX7_check_11 v_X7_202 (fun h hc => ⟨_, hc.1⟩) rfl (Nat.le_of_ble_eq_true rfl) (by omega) (Nat.le_of_ble_eq_true rfl) ?_
  simp only [Option.toList, List.nil_append, List.cons_append]
  have r_11 := r_msizeOf (c := (c_mcomponent σ u 1)) hw (by omega)
  refine C_if_le (tgt := 36) dX7_check_14 (by decide) (by omega) (fun c_14 => ?_) (fun c_14 => ?_)
  · refine C_iconst dX7_check_36 ?_
    refine C_istore dX7_check_37 (by decide) rfl ?_
    simp only [List.set_cons_zero, List.set_cons_succ, jfin0, jfin1, jfin2, jfin3]
    refine C_iload dX7_check_39 rfl ?_
    refine C_if_eq (tgt := 48) dX7_check_41 (by decide) (by omega) (fun c_41 => ?_) (fun c_41 => absurd c_41 (by omega))
    refine C_iconst dX7_check_48 ?_
    refine C_aload_n dX7_check_49 rfl ?_
    refine C_aload_n dX7_check_50 rfl ?_
    refine C_iload_n dX7_check_51 rfl ?_
    refine C_iconst dX7_check_52 ?_
    refine D_callV (As := [vi _, vi _]) (d' := 0) (t_mcomponent hw (Nat.le_refl _) (by omega) (by omega)) dX7_check_53 v_X7_205 (fun h hc => ⟨_, hc.1⟩) rfl (Nat.le_of_ble_eq_true rfl) (by omega) (Nat.le_of_ble_eq_true rfl) ?_
    simp only [Option.toList, List.nil_append, List.cons_append]
    have r_53 := r_mcomponent (s := u) (e := 0) hw (by omega) (by omega)
    refine C_iload dX7_check_56 rfl ?_
    refine D_callV (As := [vi _, vi _]) (d' := 1) (t_misNumber hw (Nat.le_refl _) (by omega) (by omega)) dX7_check_58 v_X7_212 (fun h hc => ⟨_, hc.1⟩) rfl (Nat.le_of_ble_eq_true rfl) (by omega) (Nat.le_of_ble_eq_true rfl) ?_
    simp only [Option.toList, List.nil_append, List.cons_append]
    refine C_if_eqZ (tgt := 68) dX7_check_61 (by decide) (fun c_61 => ?_) (fun c_61 => ?_)
    · refine C_iconst dX7_check_68 ?_
      refine C_iadd dX7_check_69 ?_
      refine C_iret dX7_check_70 rfl ?_
      unfold det; rw [c_mcheck, if_pos (by omega), if_neg (by rw [c_61]; decide)]; exact ⟨rfl, rfl⟩
    · refine C_iconst dX7_check_64 ?_
      refine C_goto (tgt := 69) dX7_check_65 (by decide) ?_
      refine C_iadd dX7_check_69 ?_
      refine C_iret dX7_check_70 rfl ?_
      unfold det; rw [c_mcheck, if_pos (by omega), if_pos c_61]; exact ⟨rfl, rfl⟩
  · refine C_aload_n dX7_check_17 rfl ?_
    refine C_iload dX7_check_18 rfl ?_
    refine C_aload_n dX7_check_20 rfl ?_
    refine C_iload_n dX7_check_21 rfl ?_
    refine C_iload_n dX7_check_22 rfl ?_
    refine D_callV (As := [vi _, vi _]) (d' := 0) (t_mcomponent hw (Nat.le_refl _) (by omega) (by omega)) dX7_check_23 v_X7_205 (fun h hc => ⟨_, hc.1⟩) rfl (Nat.le_of_ble_eq_true rfl) (by omega) (Nat.le_of_ble_eq_true rfl) ?_
    simp only [Option.toList, List.nil_append, List.cons_append]
    have r_23 := r_mcomponent (s := s) (e := e) hw (by omega) (by omega)
    refine D_callV (As := [vi _, vi _]) (d' := 1) (t_msame hw (Nat.le_refl _) (by omega) (by omega)) dX7_check_26 v_X7_208 (fun h hc => ⟨_, hc.1⟩) rfl (Nat.le_of_ble_eq_true rfl) (by omega) (Nat.le_of_ble_eq_true rfl) ?_
    simp only [Option.toList, List.nil_append, List.cons_append]
    refine C_if_eqZ (tgt := 36) dX7_check_29 (by decide) (fun c_29 => ?_) (fun c_29 => ?_)
    · refine C_iconst dX7_check_36 ?_
      refine C_istore dX7_check_37 (by decide) rfl ?_
      simp only [List.set_cons_zero, List.set_cons_succ, jfin0, jfin1, jfin2, jfin3]
      refine C_iload dX7_check_39 rfl ?_
      refine C_if_eq (tgt := 48) dX7_check_41 (by decide) (by omega) (fun c_41 => ?_) (fun c_41 => absurd c_41 (by omega))
      refine C_iconst dX7_check_48 ?_
      refine C_aload_n dX7_check_49 rfl ?_
      refine C_aload_n dX7_check_50 rfl ?_
      refine C_iload_n dX7_check_51 rfl ?_
      refine C_iconst dX7_check_52 ?_
      refine D_callV (As := [vi _, vi _]) (d' := 0) (t_mcomponent hw (Nat.le_refl _) (by omega) (by omega)) dX7_check_53 v_X7_205 (fun h hc => ⟨_, hc.1⟩) rfl (Nat.le_of_ble_eq_true rfl) (by omega) (Nat.le_of_ble_eq_true rfl) ?_
      simp only [Option.toList, List.nil_append, List.cons_append]
      have r_53 := r_mcomponent (s := u) (e := 0) hw (by omega) (by omega)
      refine C_iload dX7_check_56 rfl ?_
      refine D_callV (As := [vi _, vi _]) (d' := 1) (t_misNumber hw (Nat.le_refl _) (by omega) (by omega)) dX7_check_58 v_X7_212 (fun h hc => ⟨_, hc.1⟩) rfl (Nat.le_of_ble_eq_true rfl) (by omega) (Nat.le_of_ble_eq_true rfl) ?_
      simp only [Option.toList, List.nil_append, List.cons_append]
      refine C_if_eqZ (tgt := 68) dX7_check_61 (by decide) (fun c_61 => ?_) (fun c_61 => ?_)
      · refine C_iconst dX7_check_68 ?_
        refine C_iadd dX7_check_69 ?_
        refine C_iret dX7_check_70 rfl ?_
        unfold det; rw [c_mcheck, if_neg (by omega), if_neg (by rw [c_29]; decide), if_neg (by rw [c_61]; decide)]; exact ⟨rfl, rfl⟩
      · refine C_iconst dX7_check_64 ?_
        refine C_goto (tgt := 69) dX7_check_65 (by decide) ?_
        refine C_iadd dX7_check_69 ?_
        refine C_iret dX7_check_70 rfl ?_
        unfold det; rw [c_mcheck, if_neg (by omega), if_neg (by rw [c_29]; decide), if_pos c_61]; exact ⟨rfl, rfl⟩
    · refine C_iconst dX7_check_32 ?_
      refine C_goto (tgt := 37) dX7_check_33 (by decide) ?_
      refine C_istore dX7_check_37 (by decide) rfl ?_
      simp only [List.set_cons_zero, List.set_cons_succ, jfin0, jfin1, jfin2, jfin3]
      refine C_iload dX7_check_39 rfl ?_
      refine C_if_eq (tgt := 48) dX7_check_41 (by decide) (by omega) (fun c_41 => absurd c_41 (by omega)) (fun c_41 => ?_)
      refine C_iconst dX7_check_44 ?_
      refine C_goto (tgt := 49) dX7_check_45 (by decide) ?_
      refine C_aload_n dX7_check_49 rfl ?_
      refine C_aload_n dX7_check_50 rfl ?_
      refine C_iload_n dX7_check_51 rfl ?_
      refine C_iconst dX7_check_52 ?_
      refine D_callV (As := [vi _, vi _]) (d' := 0) (t_mcomponent hw (Nat.le_refl _) (by omega) (by omega)) dX7_check_53 v_X7_205 (fun h hc => ⟨_, hc.1⟩) rfl (Nat.le_of_ble_eq_true rfl) (by omega) (Nat.le_of_ble_eq_true rfl) ?_
      simp only [Option.toList, List.nil_append, List.cons_append]
      have r_53 := r_mcomponent (s := u) (e := 0) hw (by omega) (by omega)
      refine C_iload dX7_check_56 rfl ?_
      refine D_callV (As := [vi _, vi _]) (d' := 1) (t_misNumber hw (Nat.le_refl _) (by omega) (by omega)) dX7_check_58 v_X7_212 (fun h hc => ⟨_, hc.1⟩) rfl (Nat.le_of_ble_eq_true rfl) (by omega) (Nat.le_of_ble_eq_true rfl) ?_
      simp only [Option.toList, List.nil_append, List.cons_append]
      refine C_if_eqZ (tgt := 68) dX7_check_61 (by decide) (fun c_61 => ?_) (fun c_61 => ?_)
      · refine C_iconst dX7_check_68 ?_
        refine C_iadd dX7_check_69 ?_
        refine C_iret dX7_check_70 rfl ?_
        unfold det; rw [c_mcheck, if_neg (by omega), if_pos c_29, if_neg (by rw [c_61]; decide)]; exact ⟨rfl, rfl⟩
      · refine C_iconst dX7_check_64 ?_
        refine C_goto (tgt := 69) dX7_check_65 (by decide) ?_
        refine C_iadd dX7_check_69 ?_
        refine C_iret dX7_check_70 rfl ?_
        unfold det; rw [c_mcheck, if_neg (by omega), if_pos c_29, if_pos c_61]; exact ⟨rfl, rfl⟩
theorem r_mcheck {σ : mS} {s : Int} {e : Int} {u : Int} {v : Int} (hw : wfm σ) (hs : 0 ≤ s ∧ s ≤ 40) (he : 0 ≤ e ∧ e ≤ 2) (hu : 0 ≤ u ∧ u ≤ 40) (hv : rg v) : 0 ≤ (c_mcheck σ s e u v) ∧ (c_mcheck σ s e u v) < 4 := by
  unfold c_mcheck
  split
  · split
    · have r_3 := r_mcomponent (s := u) (e := 1) hw (by omega) (by omega)
      have r_11 := r_msizeOf (c := (c_mcomponent σ u 1)) hw (by omega)
      have r_53 := r_mcomponent (s := u) (e := 0) hw (by omega) (by omega)
      omega
    · have r_3 := r_mcomponent (s := u) (e := 1) hw (by omega) (by omega)
      have r_11 := r_msizeOf (c := (c_mcomponent σ u 1)) hw (by omega)
      have r_53 := r_mcomponent (s := u) (e := 0) hw (by omega) (by omega)
      omega
  · split
    · split
      · have r_3 := r_mcomponent (s := u) (e := 1) hw (by omega) (by omega)
        have r_11 := r_msizeOf (c := (c_mcomponent σ u 1)) hw (by omega)
        have r_23 := r_mcomponent (s := s) (e := e) hw (by omega) (by omega)
        have r_53 := r_mcomponent (s := u) (e := 0) hw (by omega) (by omega)
        omega
      · have r_3 := r_mcomponent (s := u) (e := 1) hw (by omega) (by omega)
        have r_11 := r_msizeOf (c := (c_mcomponent σ u 1)) hw (by omega)
        have r_23 := r_mcomponent (s := s) (e := e) hw (by omega) (by omega)
        have r_53 := r_mcomponent (s := u) (e := 0) hw (by omega) (by omega)
        omega
    · split
      · have r_3 := r_mcomponent (s := u) (e := 1) hw (by omega) (by omega)
        have r_11 := r_msizeOf (c := (c_mcomponent σ u 1)) hw (by omega)
        have r_23 := r_mcomponent (s := s) (e := e) hw (by omega) (by omega)
        have r_53 := r_mcomponent (s := u) (e := 0) hw (by omega) (by omega)
        omega
      · have r_3 := r_mcomponent (s := u) (e := 1) hw (by omega) (by omega)
        have r_11 := r_msizeOf (c := (c_mcomponent σ u 1)) hw (by omega)
        have r_23 := r_mcomponent (s := s) (e := e) hw (by omega) (by omega)
        have r_53 := r_mcomponent (s := u) (e := 0) hw (by omega) (by omega)
        omega
def c_mwrapsA  (n : Int) (g : Int) (q : Int) : Nat → Int → mS → Int
  | 0, k, _ => k
  | fu + 1, k, σ => (if (n - 1) ≤ k then k else (if (c_misEnvelope σ (mat (σ.2 15) k)) = true then k else (c_mwrapsA n g q fu (k + 1) σ)))
theorem t_mwrapsA {l : Launch} {G : jG} {d bc bs : Nat} {P : jO → mS → Prop} {σ : mS} {n : Int} {g : Int} {q : Int} {k : Int} (hw : wfm σ) (hd : 1 ≤ d) (hn : 4 ≤ n ∧ n ≤ 40) (hg : 0 ≤ g ∧ g ≤ 1) (hq : 0 ≤ q ∧ q ≤ 40) (fu : Nat) (hk : 1 ≤ k ∧ k ≤ n - 1) (hm : 40 - k < (fu : Int)) (kk : CJ jMod mown l G (Yx mX7_wraps) d bc bs 140 [some (.ref 116), some (vi n), some (vi g), some (vi (c_mwrapsA n g q fu k σ)), some (vi q)] [] σ P) : CJ jMod mown l G (Yx mX7_wraps) d bc bs 115 [some (.ref 116), some (vi n), some (vi g), some (vi k), some (vi q)] [] σ P := by
  induction fu generalizing σ k with
  | zero => exact absurd hm (by omega)
  | succ fu ih =>
    refine C_iload_n dX7_wraps_115 rfl ?_
    refine C_iload_n dX7_wraps_116 rfl ?_
    refine C_iconst dX7_wraps_117 ?_
    refine C_isub dX7_wraps_118 ?_
    refine C_icmp_ge (tgt := 140) dX7_wraps_119 (by decide) (by omega) (by omega) (fun c_119 => ?_) (fun c_119 => ?_)
    · rw [c_mwrapsA, if_pos (by omega)] at kk
      refine CJ.mono (ls' := [some (.ref 116), some (vi n), some (vi g), some (vi k), some (vi q)]) (lsub_ok (by repeat (first | exact trivial | refine ⟨rfl, ?_⟩))) (fun _ _ q => q) ?_
      exact kk
    · refine C_aload_n dX7_wraps_122 rfl ?_
      refine C_get (v := .ref 124) dX7_wraps_123 f_X7_36 (fun h hc => ⟨_, hc.1, rfl⟩) ?_
      refine C_iload_n dX7_wraps_126 rfl ?_
      refine C_iald (v := vi (mat (σ.2 15) k)) dX7_wraps_127 (by omega) (by omega) (fun h hc => hc.rd15 hw (by omega) (by omega)) ?_
      have e_127 := hw.a15 k
      refine D_callS (As := [vi _]) (d' := 0) (t_misEnvelope hw (Nat.le_refl _) (by omega)) dX7_wraps_128 s_X7_128 rfl (Nat.le_of_ble_eq_true rfl) (by omega) (Nat.le_of_ble_eq_true rfl) ?_
      simp only [Option.toList, List.nil_append, List.cons_append]
      refine C_if_neZ (tgt := 140) dX7_wraps_131 (by decide) (fun c_131 => ?_) (fun c_131 => ?_)
      · rw [c_mwrapsA, if_neg (by omega), if_pos c_131] at kk
        refine CJ.mono (ls' := [some (.ref 116), some (vi n), some (vi g), some (vi k), some (vi q)]) (lsub_ok (by repeat (first | exact trivial | refine ⟨rfl, ?_⟩))) (fun _ _ q => q) ?_
        exact kk
      · refine C_iinc dX7_wraps_134 rfl (by decide) rfl ?_
        simp only [List.set_cons_zero, List.set_cons_succ]
        refine C_goto (tgt := 115) dX7_wraps_137 (by decide) ?_
        rw [c_mwrapsA, if_neg (by omega), if_neg (by rw [c_131]; decide)] at kk
        refine CJ.mono (ls' := [some (.ref 116), some (vi n), some (vi g), some (vi (k + 1)), some (vi q)]) (lsub_ok (by repeat (first | exact trivial | refine ⟨rfl, ?_⟩))) (fun _ _ q => q) ?_
        exact ih hw (by omega) (by omega) kk
theorem r_mwrapsA {σ : mS} {n : Int} {g : Int} {q : Int} {k : Int} (hw : wfm σ) (hn : 4 ≤ n ∧ n ≤ 40) (hg : 0 ≤ g ∧ g ≤ 1) (hq : 0 ≤ q ∧ q ≤ 40) (fu : Nat) (hk : 1 ≤ k ∧ k ≤ n - 1) : k ≤ (c_mwrapsA n g q fu k σ) ∧ (c_mwrapsA n g q fu k σ) ≤ n - 1 := by
  induction fu generalizing σ k with
  | zero => unfold c_mwrapsA; omega
  | succ fu ih =>
    unfold c_mwrapsA
    split
    · omega
    · split
      · have e_127 := hw.a15 k
        omega
      · have e_127 := hw.a15 k
        refine ⟨Int.le_trans ?_ ((ih hw (by omega))).1, ((ih hw (by omega))).2⟩; omega
def c_mwrapsB  (n : Int) (g : Int) : Nat → Int → Int → mS → Int × Int × Int
  | 0, k, q, _ => (0, k, q)
  | fu + 1, k, q, σ => (if (n - 1) ≤ k then (0, k, q) else (if (mat (σ.2 15) k) = 5590600 then (if (mat (σ.2 15) (c_mwrapsA n g q (40) (k + 1) σ)) = 5590612 then (c_mwrapsB n g fu ((c_mwrapsA n g q (40) (k + 1) σ) + 1) (q + 1) σ) else (1, (c_mwrapsA n g q (40) (k + 1) σ), q)) else (0, k, q)))
theorem t_mwrapsB {l : Launch} {G : jG} {d bc bs : Nat} {P : jO → mS → Prop} {σ : mS} {n : Int} {g : Int} {k q : Int} (hw : wfm σ) (hd : 1 ≤ d) (hn : 4 ≤ n ∧ n ≤ 40) (hg : 0 ≤ g ∧ g ≤ 1) (fu : Nat) (hk : 1 ≤ k ∧ k ≤ n) (hq : 0 ≤ q ∧ q ≤ k - 1) (hm : 41 - k < (fu : Int)) (kk : (c_mwrapsB n g fu k q σ).1 = 0 → CJ jMod mown l G (Yx mX7_wraps) d bc bs 162 [some (.ref 116), some (vi n), some (vi g), some (vi ((c_mwrapsB n g fu k q σ).2.1)), some (vi ((c_mwrapsB n g fu k q σ).2.2))] [] σ P) (kr : (c_mwrapsB n g fu k q σ).1 = 1 → P (.inl (some (vi 0))) σ) : CJ jMod mown l G (Yx mX7_wraps) d bc bs 94 [some (.ref 116), some (vi n), some (vi g), some (vi k), some (vi q)] [] σ P := by
  induction fu generalizing σ k q with
  | zero => exact absurd hm (by omega)
  | succ fu ih =>
    refine C_iload_n dX7_wraps_94 rfl ?_
    refine C_iload_n dX7_wraps_95 rfl ?_
    refine C_iconst dX7_wraps_96 ?_
    refine C_isub dX7_wraps_97 ?_
    refine C_icmp_ge (tgt := 162) dX7_wraps_98 (by decide) (by omega) (by omega) (fun c_98 => ?_) (fun c_98 => ?_)
    · rw [c_mwrapsB, if_pos (by omega)] at kk
      refine CJ.mono (ls' := [some (.ref 116), some (vi n), some (vi g), some (vi k), some (vi q)]) (lsub_ok (by repeat (first | exact trivial | refine ⟨rfl, ?_⟩))) (fun _ _ q => q) ?_
      exact kk rfl
    · refine C_aload_n dX7_wraps_101 rfl ?_
      refine C_get (v := .ref 124) dX7_wraps_102 f_X7_36 (fun h hc => ⟨_, hc.1, rfl⟩) ?_
      refine C_iload_n dX7_wraps_105 rfl ?_
      refine C_iald (v := vi (mat (σ.2 15) k)) dX7_wraps_106 (by omega) (by omega) (fun h hc => hc.rd15 hw (by omega) (by omega)) ?_
      have e_106 := hw.a15 k
      refine C_ldc (5590600) dX7_wraps_107 k_X7_116 ?_
      refine C_icmp_ne (tgt := 162) dX7_wraps_109 (by decide) (by omega) (by omega) (fun c_109 => ?_) (fun c_109 => ?_)
      · rw [c_mwrapsB, if_neg (by omega), if_neg (by omega)] at kk
        refine CJ.mono (ls' := [some (.ref 116), some (vi n), some (vi g), some (vi k), some (vi q)]) (lsub_ok (by repeat (first | exact trivial | refine ⟨rfl, ?_⟩))) (fun _ _ q => q) ?_
        exact kk rfl
      · refine C_iinc dX7_wraps_112 rfl (by decide) rfl ?_
        simp only [List.set_cons_zero, List.set_cons_succ]
        refine CJ.mono (ls' := [some (.ref 116), some (vi n), some (vi g), some (vi (k + 1)), some (vi q)]) (lsub_ok (by repeat (first | exact trivial | refine ⟨rfl, ?_⟩))) (fun _ _ q => q) ?_
        refine t_mwrapsA hw hd (by omega) (by omega) (by omega) (40) (by omega) (by omega) ?_
        have qr_115 := r_mwrapsA (n := n) (g := g) (q := q) (k := (k + 1)) hw (by omega) (by omega) (by omega) (40) (by omega)
        refine C_aload_n dX7_wraps_140 rfl ?_
        refine C_get (v := .ref 124) dX7_wraps_141 f_X7_36 (fun h hc => ⟨_, hc.1, rfl⟩) ?_
        refine C_iload_n dX7_wraps_144 rfl ?_
        refine C_iald (v := vi (mat (σ.2 15) (c_mwrapsA n g q (40) (k + 1) σ))) dX7_wraps_145 (by omega) (by omega) (fun h hc => hc.rd15 hw (by omega) (by omega)) ?_
        have e_145 := hw.a15 (c_mwrapsA n g q (40) (k + 1) σ)
        refine C_ldc (5590612) dX7_wraps_146 k_X7_117 ?_
        refine C_icmp_eq (tgt := 153) dX7_wraps_148 (by decide) (by omega) (by omega) (fun c_148 => ?_) (fun c_148 => ?_)
        · refine C_iinc dX7_wraps_153 rfl (by decide) rfl ?_
          simp only [List.set_cons_zero, List.set_cons_succ]
          refine C_iinc dX7_wraps_156 rfl (by decide) rfl ?_
          simp only [List.set_cons_zero, List.set_cons_succ]
          refine C_goto (tgt := 94) dX7_wraps_159 (by decide) ?_
          rw [c_mwrapsB, if_neg (by omega), if_pos (by omega), if_pos (by omega)] at kk kr
          refine CJ.mono (ls' := [some (.ref 116), some (vi n), some (vi g), some (vi ((c_mwrapsA n g q (40) (k + 1) σ) + 1)), some (vi (q + 1))]) (lsub_ok (by repeat (first | exact trivial | refine ⟨rfl, ?_⟩))) (fun _ _ q => q) ?_
          exact ih hw (by omega) (by omega) (by omega) kk kr
        · refine C_iconst dX7_wraps_151 ?_
          rw [c_mwrapsB, if_neg (by omega), if_pos (by omega), if_neg (by omega)] at kr
          exact C_zret dX7_wraps_152 rfl (Or.inl rfl) (kr rfl)
theorem f_mwrapsB {σ : mS} {n : Int} {g : Int} {k q : Int} (hw : wfm σ) (hn : 4 ≤ n ∧ n ≤ 40) (hg : 0 ≤ g ∧ g ≤ 1) (fu : Nat) (hk : 1 ≤ k ∧ k ≤ n) (hq : 0 ≤ q ∧ q ≤ k - 1) : (c_mwrapsB n g fu k q σ).1 = 0 ∨ (c_mwrapsB n g fu k q σ).1 = 1 := by
  induction fu generalizing σ k q with
  | zero => unfold c_mwrapsB; exact Or.inl rfl
  | succ fu ih =>
    unfold c_mwrapsB
    split
    · first | exact Or.inl rfl | exact Or.inr rfl
    · split
      · split
        · have e_106 := hw.a15 k
          have qr_115 := r_mwrapsA (n := n) (g := g) (q := q) (k := (k + 1)) hw (by omega) (by omega) (by omega) (40) (by omega)
          have e_145 := hw.a15 (c_mwrapsA n g q (40) (k + 1) σ)
          exact (ih hw (by omega) (by omega))
        · have e_106 := hw.a15 k
          have qr_115 := r_mwrapsA (n := n) (g := g) (q := q) (k := (k + 1)) hw (by omega) (by omega) (by omega) (40) (by omega)
          have e_145 := hw.a15 (c_mwrapsA n g q (40) (k + 1) σ)
          first | exact Or.inl rfl | exact Or.inr rfl
      · have e_106 := hw.a15 k
        first | exact Or.inl rfl | exact Or.inr rfl
theorem r_mwrapsB {σ : mS} {n : Int} {g : Int} {k q : Int} (hw : wfm σ) (hn : 4 ≤ n ∧ n ≤ 40) (hg : 0 ≤ g ∧ g ≤ 1) (fu : Nat) (hk : 1 ≤ k ∧ k ≤ n) (hq : 0 ≤ q ∧ q ≤ k - 1) : k + (c_mwrapsB n g fu k q σ).2.2 ≤ (c_mwrapsB n g fu k q σ).2.1 + q ∧ (c_mwrapsB n g fu k q σ).2.1 ≤ n ∧ q ≤ (c_mwrapsB n g fu k q σ).2.2 := by
  induction fu generalizing σ k q with
  | zero => unfold c_mwrapsB; simp only []; omega
  | succ fu ih =>
    unfold c_mwrapsB
    split
    · simp only []; omega
    · split
      · split
        · have e_106 := hw.a15 k
          have qr_115 := r_mwrapsA (n := n) (g := g) (q := q) (k := (k + 1)) hw (by omega) (by omega) (by omega) (40) (by omega)
          have e_145 := hw.a15 (c_mwrapsA n g q (40) (k + 1) σ)
          refine And.imp (fun h => ?_) (fun h => ⟨h.1, ?_⟩) (ih hw (by omega) (by omega)) <;> omega
        · have e_106 := hw.a15 k
          have qr_115 := r_mwrapsA (n := n) (g := g) (q := q) (k := (k + 1)) hw (by omega) (by omega) (by omega) (40) (by omega)
          have e_145 := hw.a15 (c_mwrapsA n g q (40) (k + 1) σ)
          simp only []; omega
      · have e_106 := hw.a15 k
        simp only []; omega
def c_mwrapsL  : Nat → Int → Int → Int → mS → Bool
  | 0, _, _, _, σ => false
  | fu + 1, n, g, k, σ => (if (n - 1) ≤ k then true else (if g = 0 then (if (c_mwrapsB n g (41) k 0 σ).1 = 1 then false else (if (c_mwrapsB n g (41) k 0 σ).2.2 = 0 then false else (if (n - 1) ≤ (c_mwrapsB n g (41) k 0 σ).2.1 then (c_mwrapsL  fu n g ((c_mwrapsB n g (41) k 0 σ).2.1) σ) else false))) else (if (mat (σ.2 15) k) = 5590599 then (if (c_mwrapsB n g (41) (k + 1) 0 σ).1 = 1 then false else (if (c_mwrapsB n g (41) (k + 1) 0 σ).2.2 = 0 then false else (if (mat (σ.2 15) ((c_mwrapsB n g (41) (k + 1) 0 σ).2.1)) = 5590597 then (c_mwrapsL  fu n g ((c_mwrapsB n g (41) (k + 1) 0 σ).2.1 + 1) σ) else false))) else false)))
def c_mwraps (σ : mS)  : Bool := (if (σ.1 14) < 4 then false else (if (mat (σ.2 15) 0) = 5590594 then (if (mat (σ.2 15) ((σ.1 14) - 1)) = 5590618 then (if (mat (σ.2 15) 1) = 5590599 then (c_mwrapsL  (42) (σ.1 14) 1 1 σ) else (c_mwrapsL  (42) (σ.1 14) 0 1 σ)) else false) else false))
theorem t_mwrapsL {l : Launch} {G : jG} {d : Nat} {σ : mS}  {n g k : Int} (hw : wfm σ) (hd : 1 ≤ d)  (fu : Nat) (hn : 4 ≤ n ∧ n ≤ 40) (hg : 0 ≤ g ∧ g ≤ 1) (hk : 1 ≤ k ∧ k ≤ n + 1) (hm : 42 - k < (fu : Int)) : CJ jMod mown l G (Yx mX7_wraps) d 0 0 55 [some (.ref 116), some (vi n), some (vi g), some (vi k), none] [] σ (det (some (vi (bz (c_mwrapsL  fu n g k σ)))) σ) := by
  induction fu generalizing σ n g k with
  | zero => exact absurd hm (by omega)
  | succ fu ih =>
    refine C_iload_n dX7_wraps_55 rfl ?_
    refine C_iload_n dX7_wraps_56 rfl ?_
    refine C_iconst dX7_wraps_57 ?_
    refine C_isub dX7_wraps_58 ?_
    refine C_icmp_ge (tgt := 210) dX7_wraps_59 (by decide) (by omega) (by omega) (fun c_59 => ?_) (fun c_59 => ?_)
    · refine C_iconst dX7_wraps_210 ?_
      refine C_zret dX7_wraps_211 rfl (by first | exact Or.inl rfl | exact Or.inr rfl | exact bz_01 _) ?_
      unfold det; rw [c_mwrapsL, if_pos (by omega)]; exact ⟨rfl, rfl⟩
    · refine C_iload_n dX7_wraps_62 rfl ?_
      refine C_if_eq (tgt := 79) dX7_wraps_63 (by decide) (by omega) (fun c_63 => ?_) (fun c_63 => ?_)
      · refine C_iload_n dX7_wraps_79 rfl ?_
        refine C_if_eq (tgt := 89) dX7_wraps_80 (by decide) (by omega) (fun c_80 => ?_) (fun c_80 => absurd c_80 (by omega))
        refine C_iload_n dX7_wraps_89 rfl ?_
        refine C_istore_n dX7_wraps_90 (by decide) rfl ?_
        simp only [List.set_cons_zero, List.set_cons_succ, jfin0, jfin1, jfin2, jfin3]
        refine C_iconst dX7_wraps_91 ?_
        refine C_istore dX7_wraps_92 (by decide) rfl ?_
        simp only [List.set_cons_zero, List.set_cons_succ, jfin0, jfin1, jfin2, jfin3]
        refine CJ.mono (ls' := [some (.ref 116), some (vi n), some (vi g), some (vi k), some (vi 0)]) (lsub_ok (by repeat (first | exact trivial | refine ⟨rfl, ?_⟩))) (fun _ _ q => q) ?_
        have qf_94 := f_mwrapsB (n := n) (g := g) (k := k) (q := 0) hw (by omega) (by omega) (41) (by omega) (by omega)
        have qr_94 := r_mwrapsB (n := n) (g := g) (k := k) (q := 0) hw (by omega) (by omega) (41) (by omega) (by omega)
        refine t_mwrapsB hw hd (by omega) (by omega) (41) (by omega) (by omega) (by omega) (fun c_94 => ?_) (fun c_94 => ?_)
        · refine C_iload dX7_wraps_162 rfl ?_
          refine C_if_eq (tgt := 193) dX7_wraps_164 (by decide) (by omega) (fun c_164 => ?_) (fun c_164 => ?_)
          · refine C_iconst dX7_wraps_193 ?_
            refine C_zret dX7_wraps_194 rfl (by first | exact Or.inl rfl | exact Or.inr rfl | exact bz_01 _) ?_
            unfold det; rw [c_mwrapsL, if_neg (by omega), if_pos (by omega), if_neg (by omega), if_pos (by omega)]; exact ⟨rfl, rfl⟩
          · refine C_iload_n dX7_wraps_167 rfl ?_
            refine C_if_eq (tgt := 182) dX7_wraps_168 (by decide) (by omega) (fun c_168 => ?_) (fun c_168 => absurd c_168 (by omega))
            refine C_iload_n dX7_wraps_182 rfl ?_
            refine C_if_ne (tgt := 195) dX7_wraps_183 (by decide) (by omega) (fun c_183 => absurd c_183 (by omega)) (fun c_183 => ?_)
            refine C_iload_n dX7_wraps_186 rfl ?_
            refine C_iload_n dX7_wraps_187 rfl ?_
            refine C_iconst dX7_wraps_188 ?_
            refine C_isub dX7_wraps_189 ?_
            refine C_icmp_ge (tgt := 195) dX7_wraps_190 (by decide) (by omega) (by omega) (fun c_190 => ?_) (fun c_190 => ?_)
            · refine C_iload_n dX7_wraps_195 rfl ?_
              refine C_if_eq (tgt := 205) dX7_wraps_196 (by decide) (by omega) (fun c_196 => ?_) (fun c_196 => absurd c_196 (by omega))
              refine C_iload_n dX7_wraps_205 rfl ?_
              refine C_istore_n dX7_wraps_206 (by decide) rfl ?_
              simp only [List.set_cons_zero, List.set_cons_succ, jfin0, jfin1, jfin2, jfin3]
              refine C_goto (tgt := 55) dX7_wraps_207 (by decide) ?_
              rw [c_mwrapsL, if_neg (by omega), if_pos (by omega), if_neg (by omega), if_neg (by omega), if_pos (by omega)]
              refine CJ.mono (ls' := [some (.ref 116), some (vi n), some (vi g), some (vi ((c_mwrapsB n g (41) k 0 σ).2.1)), none]) (lsub_ok (by repeat (first | exact trivial | refine ⟨rfl, ?_⟩))) (fun _ _ q => q) ?_
              exact ih hw (by omega) (by omega) (by omega) (by omega)
            · refine C_iconst dX7_wraps_193 ?_
              refine C_zret dX7_wraps_194 rfl (by first | exact Or.inl rfl | exact Or.inr rfl | exact bz_01 _) ?_
              unfold det; rw [c_mwrapsL, if_neg (by omega), if_pos (by omega), if_neg (by omega), if_neg (by omega), if_neg (by omega)]; exact ⟨rfl, rfl⟩
        · unfold det; rw [c_mwrapsL, if_neg (by omega), if_pos (by omega), if_pos (by omega)]; exact ⟨rfl, rfl⟩
      · refine C_aload_n dX7_wraps_66 rfl ?_
        refine C_get (v := .ref 124) dX7_wraps_67 f_X7_36 (fun h hc => ⟨_, hc.1, rfl⟩) ?_
        refine C_iload_n dX7_wraps_70 rfl ?_
        refine C_iald (v := vi (mat (σ.2 15) k)) dX7_wraps_71 (by omega) (by omega) (fun h hc => hc.rd15 hw (by omega) (by omega)) ?_
        have e_71 := hw.a15 k
        refine C_ldc (5590599) dX7_wraps_72 k_X7_114 ?_
        refine C_icmp_eq (tgt := 79) dX7_wraps_74 (by decide) (by omega) (by omega) (fun c_74 => ?_) (fun c_74 => ?_)
        · refine C_iload_n dX7_wraps_79 rfl ?_
          refine C_if_eq (tgt := 89) dX7_wraps_80 (by decide) (by omega) (fun c_80 => absurd c_80 (by omega)) (fun c_80 => ?_)
          refine C_iload_n dX7_wraps_83 rfl ?_
          refine C_iconst dX7_wraps_84 ?_
          refine C_iadd dX7_wraps_85 ?_
          refine C_goto (tgt := 90) dX7_wraps_86 (by decide) ?_
          refine C_istore_n dX7_wraps_90 (by decide) rfl ?_
          simp only [List.set_cons_zero, List.set_cons_succ, jfin0, jfin1, jfin2, jfin3]
          refine C_iconst dX7_wraps_91 ?_
          refine C_istore dX7_wraps_92 (by decide) rfl ?_
          simp only [List.set_cons_zero, List.set_cons_succ, jfin0, jfin1, jfin2, jfin3]
          refine CJ.mono (ls' := [some (.ref 116), some (vi n), some (vi g), some (vi (k + 1)), some (vi 0)]) (lsub_ok (by repeat (first | exact trivial | refine ⟨rfl, ?_⟩))) (fun _ _ q => q) ?_
          have qf_94 := f_mwrapsB (n := n) (g := g) (k := (k + 1)) (q := 0) hw (by omega) (by omega) (41) (by omega) (by omega)
          have qr_94 := r_mwrapsB (n := n) (g := g) (k := (k + 1)) (q := 0) hw (by omega) (by omega) (41) (by omega) (by omega)
          refine t_mwrapsB hw hd (by omega) (by omega) (41) (by omega) (by omega) (by omega) (fun c_94 => ?_) (fun c_94 => ?_)
          · refine C_iload dX7_wraps_162 rfl ?_
            refine C_if_eq (tgt := 193) dX7_wraps_164 (by decide) (by omega) (fun c_164 => ?_) (fun c_164 => ?_)
            · refine C_iconst dX7_wraps_193 ?_
              refine C_zret dX7_wraps_194 rfl (by first | exact Or.inl rfl | exact Or.inr rfl | exact bz_01 _) ?_
              unfold det; rw [c_mwrapsL, if_neg (by omega), if_neg (by omega), if_pos (by omega), if_neg (by omega), if_pos (by omega)]; exact ⟨rfl, rfl⟩
            · refine C_iload_n dX7_wraps_167 rfl ?_
              refine C_if_eq (tgt := 182) dX7_wraps_168 (by decide) (by omega) (fun c_168 => absurd c_168 (by omega)) (fun c_168 => ?_)
              refine C_aload_n dX7_wraps_171 rfl ?_
              refine C_get (v := .ref 124) dX7_wraps_172 f_X7_36 (fun h hc => ⟨_, hc.1, rfl⟩) ?_
              refine C_iload_n dX7_wraps_175 rfl ?_
              refine C_iald (v := vi (mat (σ.2 15) ((c_mwrapsB n g (41) (k + 1) 0 σ).2.1))) dX7_wraps_176 (by omega) (by omega) (fun h hc => hc.rd15 hw (by omega) (by omega)) ?_
              have e_176 := hw.a15 ((c_mwrapsB n g (41) (k + 1) 0 σ).2.1)
              refine C_ldc (5590597) dX7_wraps_177 k_X7_115 ?_
              refine C_icmp_ne (tgt := 193) dX7_wraps_179 (by decide) (by omega) (by omega) (fun c_179 => ?_) (fun c_179 => ?_)
              · refine C_iconst dX7_wraps_193 ?_
                refine C_zret dX7_wraps_194 rfl (by first | exact Or.inl rfl | exact Or.inr rfl | exact bz_01 _) ?_
                unfold det; rw [c_mwrapsL, if_neg (by omega), if_neg (by omega), if_pos (by omega), if_neg (by omega), if_neg (by omega), if_neg (by omega)]; exact ⟨rfl, rfl⟩
              · refine C_iload_n dX7_wraps_182 rfl ?_
                refine C_if_ne (tgt := 195) dX7_wraps_183 (by decide) (by omega) (fun c_183 => ?_) (fun c_183 => absurd c_183 (by omega))
                refine C_iload_n dX7_wraps_195 rfl ?_
                refine C_if_eq (tgt := 205) dX7_wraps_196 (by decide) (by omega) (fun c_196 => absurd c_196 (by omega)) (fun c_196 => ?_)
                refine C_iload_n dX7_wraps_199 rfl ?_
                refine C_iconst dX7_wraps_200 ?_
                refine C_iadd dX7_wraps_201 ?_
                refine C_goto (tgt := 206) dX7_wraps_202 (by decide) ?_
                refine C_istore_n dX7_wraps_206 (by decide) rfl ?_
                simp only [List.set_cons_zero, List.set_cons_succ, jfin0, jfin1, jfin2, jfin3]
                refine C_goto (tgt := 55) dX7_wraps_207 (by decide) ?_
                rw [c_mwrapsL, if_neg (by omega), if_neg (by omega), if_pos (by omega), if_neg (by omega), if_neg (by omega), if_pos (by omega)]
                refine CJ.mono (ls' := [some (.ref 116), some (vi n), some (vi g), some (vi ((c_mwrapsB n g (41) (k + 1) 0 σ).2.1 + 1)), none]) (lsub_ok (by repeat (first | exact trivial | refine ⟨rfl, ?_⟩))) (fun _ _ q => q) ?_
                exact ih hw (by omega) (by omega) (by omega) (by omega)
          · unfold det; rw [c_mwrapsL, if_neg (by omega), if_neg (by omega), if_pos (by omega), if_pos (by omega)]; exact ⟨rfl, rfl⟩
        · refine C_iconst dX7_wraps_77 ?_
          refine C_zret dX7_wraps_78 rfl (by first | exact Or.inl rfl | exact Or.inr rfl | exact bz_01 _) ?_
          unfold det; rw [c_mwrapsL, if_neg (by omega), if_neg (by omega), if_neg (by omega)]; exact ⟨rfl, rfl⟩
theorem t_mwraps {l : Launch} {G : jG} {d : Nat} {σ : mS}  (hw : wfm σ) (hd : 1 ≤ d)  : CJ jMod mown l G (Yx mX7_wraps) d 0 0 0 [some (.ref 116), none, none, none, none] [] σ (det (some (vi (bz (c_mwraps σ )))) σ) := by
  refine C_aload_n dX7_wraps_0 rfl ?_
  refine C_get (v := vi (σ.1 14)) dX7_wraps_1 f_X7_169 (fun h hc => ⟨_, hc.1, rfl⟩) ?_
  have g_1 := hw.f14
  refine C_istore_n dX7_wraps_4 (by decide) rfl ?_
  simp only [List.set_cons_zero, List.set_cons_succ, jfin0, jfin1, jfin2, jfin3]
  refine C_iload_n dX7_wraps_5 rfl ?_
  refine C_iconst dX7_wraps_6 ?_
  refine C_icmp_lt (tgt := 34) dX7_wraps_7 (by decide) (by omega) (by omega) (fun c_7 => ?_) (fun c_7 => ?_)
  · refine C_iconst dX7_wraps_34 ?_
    refine C_zret dX7_wraps_35 rfl (by first | exact Or.inl rfl | exact Or.inr rfl | exact bz_01 _) ?_
    unfold det; rw [c_mwraps, if_pos (by omega)]; exact ⟨rfl, rfl⟩
  · refine C_aload_n dX7_wraps_10 rfl ?_
    refine C_get (v := .ref 124) dX7_wraps_11 f_X7_36 (fun h hc => ⟨_, hc.1, rfl⟩) ?_
    refine C_iconst dX7_wraps_14 ?_
    refine C_iald (v := vi (mat (σ.2 15) 0)) dX7_wraps_15 (by omega) (by omega) (fun h hc => hc.rd15 hw (by omega) (by omega)) ?_
    have e_15 := hw.a15 0
    refine C_ldc (5590594) dX7_wraps_16 k_X7_112 ?_
    refine C_icmp_ne (tgt := 34) dX7_wraps_18 (by decide) (by omega) (by omega) (fun c_18 => ?_) (fun c_18 => ?_)
    · refine C_iconst dX7_wraps_34 ?_
      refine C_zret dX7_wraps_35 rfl (by first | exact Or.inl rfl | exact Or.inr rfl | exact bz_01 _) ?_
      unfold det; rw [c_mwraps, if_neg (by omega), if_neg (by omega)]; exact ⟨rfl, rfl⟩
    · refine C_aload_n dX7_wraps_21 rfl ?_
      refine C_get (v := .ref 124) dX7_wraps_22 f_X7_36 (fun h hc => ⟨_, hc.1, rfl⟩) ?_
      refine C_iload_n dX7_wraps_25 rfl ?_
      refine C_iconst dX7_wraps_26 ?_
      refine C_isub dX7_wraps_27 ?_
      refine C_iald (v := vi (mat (σ.2 15) ((σ.1 14) - 1))) dX7_wraps_28 (by omega) (by omega) (fun h hc => hc.rd15 hw (by omega) (by omega)) ?_
      have e_28 := hw.a15 ((σ.1 14) - 1)
      refine C_ldc (5590618) dX7_wraps_29 k_X7_113 ?_
      refine C_icmp_eq (tgt := 36) dX7_wraps_31 (by decide) (by omega) (by omega) (fun c_31 => ?_) (fun c_31 => ?_)
      · refine C_aload_n dX7_wraps_36 rfl ?_
        refine C_get (v := .ref 124) dX7_wraps_37 f_X7_36 (fun h hc => ⟨_, hc.1, rfl⟩) ?_
        refine C_iconst dX7_wraps_40 ?_
        refine C_iald (v := vi (mat (σ.2 15) 1)) dX7_wraps_41 (by omega) (by omega) (fun h hc => hc.rd15 hw (by omega) (by omega)) ?_
        have e_41 := hw.a15 1
        refine C_ldc (5590599) dX7_wraps_42 k_X7_114 ?_
        refine C_icmp_ne (tgt := 51) dX7_wraps_44 (by decide) (by omega) (by omega) (fun c_44 => ?_) (fun c_44 => ?_)
        · refine C_iconst dX7_wraps_51 ?_
          refine C_istore_n dX7_wraps_52 (by decide) rfl ?_
          simp only [List.set_cons_zero, List.set_cons_succ, jfin0, jfin1, jfin2, jfin3]
          refine C_iconst dX7_wraps_53 ?_
          refine C_istore_n dX7_wraps_54 (by decide) rfl ?_
          simp only [List.set_cons_zero, List.set_cons_succ, jfin0, jfin1, jfin2, jfin3]
          rw [c_mwraps, if_neg (by omega), if_pos (by omega), if_pos (by omega), if_neg (by omega)]
          refine CJ.mono (ls' := [some (.ref 116), some (vi (σ.1 14)), some (vi 0), some (vi 1), none]) (lsub_ok (by repeat (first | exact trivial | refine ⟨rfl, ?_⟩))) (fun _ _ q => q) ?_
          exact t_mwrapsL hw hd  (42) (by omega) (by omega) (by omega) (by omega)
        · refine C_iconst dX7_wraps_47 ?_
          refine C_goto (tgt := 52) dX7_wraps_48 (by decide) ?_
          refine C_istore_n dX7_wraps_52 (by decide) rfl ?_
          simp only [List.set_cons_zero, List.set_cons_succ, jfin0, jfin1, jfin2, jfin3]
          refine C_iconst dX7_wraps_53 ?_
          refine C_istore_n dX7_wraps_54 (by decide) rfl ?_
          simp only [List.set_cons_zero, List.set_cons_succ, jfin0, jfin1, jfin2, jfin3]
          rw [c_mwraps, if_neg (by omega), if_pos (by omega), if_pos (by omega), if_pos (by omega)]
          refine CJ.mono (ls' := [some (.ref 116), some (vi (σ.1 14)), some (vi 1), some (vi 1), none]) (lsub_ok (by repeat (first | exact trivial | refine ⟨rfl, ?_⟩))) (fun _ _ q => q) ?_
          exact t_mwrapsL hw hd  (42) (by omega) (by omega) (by omega) (by omega)
      · refine C_iconst dX7_wraps_34 ?_
        refine C_zret dX7_wraps_35 rfl (by first | exact Or.inl rfl | exact Or.inr rfl | exact bz_01 _) ?_
        unfold det; rw [c_mwraps, if_neg (by omega), if_pos (by omega), if_neg (by omega)]; exact ⟨rfl, rfl⟩
