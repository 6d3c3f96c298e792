/-- the counts of what is written; they only grow -/
def mle (σ τ : mS) : Prop := σ.1 48 ≤ τ.1 48 ∧ σ.1 50 ≤ τ.1 50
theorem mle_refl (σ : mS) : mle σ σ := ⟨Int.le_refl _, Int.le_refl _⟩
theorem mle_trans {σ τ υ : mS} (h1 : mle σ τ) (h2 : mle τ υ) : mle σ υ := ⟨Int.le_trans h1.1 h2.1, Int.le_trans h1.2 h2.2⟩
def mok (σ : mS) : Prop := σ.1 48 ≤ 1200 ∧ σ.1 50 ≤ 2400
theorem mok_le {σ τ : mS} (h : mle σ τ) (k : mok τ) : mok σ := ⟨Int.le_trans h.1 k.1, Int.le_trans h.2 k.2⟩
def c_mwrite (σ : mS) (c : Int) : mS := (if (σ.1 52) = 0 then (mfl (mar σ 49 (σ.1 48) c) 48 ((σ.1 48) + 1)) else (mfl (mar σ 51 (σ.1 50) c) 50 ((σ.1 50) + 1)))
theorem t_mwrite {l : Launch} {G : jG} {d : Nat} {σ : mS} {c : Int} (hw : wfm σ) (hd : 0 ≤ d) (hc : 0 ≤ c ∧ c ≤ 255) (hr : mok (c_mwrite σ c)) : CJ jMod mown l G (Yx mX7_write) d 0 0 0 [some (.ref 116), some (vi c)] [] σ (det none (c_mwrite σ c)) := by
  refine C_aload_n dX7_write_0 rfl ?_
  refine C_get (v := vi (σ.1 52)) dX7_write_1 f_X7_269 (fun h hc => ⟨_, hc.1, rfl⟩) ?_
  have g_1 := hw.f52
  refine C_if_eq (tgt := 30) dX7_write_4 (by decide) (by omega) (fun c_4 => ?_) (fun c_4 => ?_)
  · have hr3 : σ.1 48 + 1 ≤ 1200 := by have h := hr; unfold c_mwrite at h; rw [if_pos (by omega)] at h; exact h.1
    refine C_aload_n dX7_write_30 rfl ?_
    refine C_get (v := .ref 144) dX7_write_31 f_X7_96 (fun h hc => ⟨_, hc.1, rfl⟩) ?_
    refine C_aload_n dX7_write_34 rfl ?_
    refine C_get (v := vi (σ.1 48)) dX7_write_35 f_X7_275 (fun h hc => ⟨_, hc.1, rfl⟩) ?_
    have g_35 := hw.f48
    refine C_iload_n dX7_write_38 rfl ?_
    refine C_iast (σ' := (mar σ 49 (σ.1 48) c)) dX7_write_39 (by omega) (by omega) mo49 (fun h hc => hc.st49 hw (by omega) (by omega)) ?_
    have hw2 : wfm (mar σ 49 (σ.1 48) c) := wfm_a (k := 49) hw (show (0 : Int) ≤ c ∧ c ≤ 255 by omega)
    refine C_aload_n dX7_write_40 rfl ?_
    refine C_dup dX7_write_41 rfl ?_
    refine C_get (v := vi (σ.1 48)) dX7_write_42 f_X7_275 (fun h hc => ⟨_, hc.1, congrArg (fun z => some (vi z)) (show ((mar σ 49 (σ.1 48) c).1 48) = (σ.1 48) by simp [mfl, mar, upF])⟩) ?_
    have g_42 := hw.f48
    refine C_iconst dX7_write_45 ?_
    refine C_iadd dX7_write_46 ?_
    refine C_put (σ' := (mfl (mar σ 49 (σ.1 48) c) 48 ((σ.1 48) + 1))) dX7_write_47 f_X7_275 jfit_i mown_0 (fun h hc => hc.pf48) ?_
    have hw3 : wfm (mfl (mar σ 49 (σ.1 48) c) 48 ((σ.1 48) + 1)) := wfm_f (k := 48) hw2 (show (0 : Int) ≤ ((σ.1 48) + 1) ∧ ((σ.1 48) + 1) ≤ 1200 by omega)
    refine C_vret dX7_write_50 rfl ⟨rfl, ?_⟩
    rw [c_mwrite, if_pos (by omega)]
  · have hr3 : σ.1 50 + 1 ≤ 2400 := by have h := hr; unfold c_mwrite at h; rw [if_neg (by omega)] at h; exact h.2
    refine C_aload_n dX7_write_7 rfl ?_
    refine C_get (v := .ref 145) dX7_write_8 f_X7_99 (fun h hc => ⟨_, hc.1, rfl⟩) ?_
    refine C_aload_n dX7_write_11 rfl ?_
    refine C_get (v := vi (σ.1 50)) dX7_write_12 f_X7_272 (fun h hc => ⟨_, hc.1, rfl⟩) ?_
    have g_12 := hw.f50
    refine C_iload_n dX7_write_15 rfl ?_
    refine C_iast (σ' := (mar σ 51 (σ.1 50) c)) dX7_write_16 (by omega) (by omega) mo51 (fun h hc => hc.st51 hw (by omega) (by omega)) ?_
    have hw4 : wfm (mar σ 51 (σ.1 50) c) := wfm_a (k := 51) hw (show (0 : Int) ≤ c ∧ c ≤ 255 by omega)
    refine C_aload_n dX7_write_17 rfl ?_
    refine C_dup dX7_write_18 rfl ?_
    refine C_get (v := vi (σ.1 50)) dX7_write_19 f_X7_272 (fun h hc => ⟨_, hc.1, congrArg (fun z => some (vi z)) (show ((mar σ 51 (σ.1 50) c).1 50) = (σ.1 50) by simp [mfl, mar, upF])⟩) ?_
    have g_19 := hw.f50
    refine C_iconst dX7_write_22 ?_
    refine C_iadd dX7_write_23 ?_
    refine C_put (σ' := (mfl (mar σ 51 (σ.1 50) c) 50 ((σ.1 50) + 1))) dX7_write_24 f_X7_272 jfit_i mown_0 (fun h hc => hc.pf50) ?_
    have hw5 : wfm (mfl (mar σ 51 (σ.1 50) c) 50 ((σ.1 50) + 1)) := wfm_f (k := 50) hw4 (show (0 : Int) ≤ ((σ.1 50) + 1) ∧ ((σ.1 50) + 1) ≤ 2400 by omega)
    refine C_goto (tgt := 50) dX7_write_27 (by decide) ?_
    refine C_vret dX7_write_50 rfl ⟨rfl, ?_⟩
    rw [c_mwrite, if_neg (by omega)]
theorem w_mwrite {σ : mS} {c : Int} (hw : wfm σ) (hc : 0 ≤ c ∧ c ≤ 255) (hr : mok (c_mwrite σ c)) : wfm (c_mwrite σ c) := by
  unfold c_mwrite
  split
  · have g_1 := hw.f52
    have hr3 : σ.1 48 + 1 ≤ 1200 := by have h := hr; unfold c_mwrite at h; rw [if_pos (by omega)] at h; exact h.1
    have g_35 := hw.f48
    have hw2 : wfm (mar σ 49 (σ.1 48) c) := wfm_a (k := 49) hw (show (0 : Int) ≤ c ∧ c ≤ 255 by omega)
    have g_42 := hw.f48
    have hw3 : wfm (mfl (mar σ 49 (σ.1 48) c) 48 ((σ.1 48) + 1)) := wfm_f (k := 48) hw2 (show (0 : Int) ≤ ((σ.1 48) + 1) ∧ ((σ.1 48) + 1) ≤ 1200 by omega)
    exact hw3
  · have g_1 := hw.f52
    have hr3 : σ.1 50 + 1 ≤ 2400 := by have h := hr; unfold c_mwrite at h; rw [if_neg (by omega)] at h; exact h.2
    have g_12 := hw.f50
    have hw4 : wfm (mar σ 51 (σ.1 50) c) := wfm_a (k := 51) hw (show (0 : Int) ≤ c ∧ c ≤ 255 by omega)
    have g_19 := hw.f50
    have hw5 : wfm (mfl (mar σ 51 (σ.1 50) c) 50 ((σ.1 50) + 1)) := wfm_f (k := 50) hw4 (show (0 : Int) ≤ ((σ.1 50) + 1) ∧ ((σ.1 50) + 1) ≤ 2400 by omega)
    exact hw5
theorem ml_mwrite {σ : mS} {c : Int} : mle σ (c_mwrite σ c) := by
  unfold c_mwrite
  split
  · exact ⟨by show σ.1 48 ≤ σ.1 48 + 1; omega, Int.le_refl _⟩
  · exact ⟨Int.le_refl _, by show σ.1 50 ≤ σ.1 50 + 1; omega⟩
theorem sl_ite {ρ a b : mS} {c : Prop} [Decidable c] (h1 : mle ρ a) (h2 : mle ρ b) : mle ρ (if c then a else b) := by split <;> assumption
theorem sl_mwrite {c : Int} {ρ τ : mS} (h : mle ρ τ) : mle ρ (c_mwrite τ c) := mle_trans h ml_mwrite
theorem g1_mwrite {σ : mS} {c : Int} {k : Nat} (h : k ∉ ([48, 50] : List Nat)) : (c_mwrite σ c).1 k = σ.1 k := by
  simp only [List.mem_cons, List.not_mem_nil, or_false, not_or] at h
  unfold c_mwrite
  (repeat' split) <;> simp [mfl, mar, upF, h]
theorem g2_mwrite {σ : mS} {c : Int} {k : Nat} (h : k ∉ ([49, 51] : List Nat)) : (c_mwrite σ c).2 k = σ.2 k := by
  simp only [List.mem_cons, List.not_mem_nil, or_false, not_or] at h
  unfold c_mwrite
  (repeat' split) <;> simp [mfl, mar, upF, h]
def c_mwriteTag (σ : mS) (v : Int) : mS := (c_mwrite (c_mwrite (c_mwrite σ (v / 65536)) ((v / 256) % 256)) (v % 256))
theorem t_mwriteTag {l : Launch} {G : jG} {d : Nat} {σ : mS} {v : Int} (hw : wfm σ) (hd : 1 ≤ d) (hv : 0 ≤ v ∧ v ≤ 16777215) (hr : mok (c_mwriteTag σ v)) : CJ jMod mown l G (Yx mX7_writeTag) d 0 0 0 [some (.ref 116), some (vi v)] [] σ (det none (c_mwriteTag σ v)) := by
  refine C_aload_n dX7_writeTag_0 rfl ?_
  refine C_iload_n dX7_writeTag_1 rfl ?_
  refine C_bipush dX7_writeTag_2 (by decide) ?_
  refine C_sshr16 dX7_writeTag_4 (by omega) ?_
  refine D_callV (As := [vi _]) (d' := 0) (t_mwrite hw (Nat.le_refl _) (by omega) (mok_le (by rw [c_mwriteTag]; simp (maxDischargeDepth := 300) only [mle_refl, ↓sl_ite, ↓sl_mwrite]) hr)) dX7_writeTag_5 v_X7_278 (fun h hc => ⟨_, hc.1⟩) rfl (Nat.le_of_ble_eq_true rfl) (by omega) (Nat.le_of_ble_eq_true rfl) ?_
  simp only [Option.toList, List.nil_append, List.cons_append]
  have hw1 : wfm (c_mwrite σ (v / 65536)) := w_mwrite hw (by omega) (mok_le (by rw [c_mwriteTag]; simp (maxDischargeDepth := 300) only [mle_refl, ↓sl_ite, ↓sl_mwrite]) hr)
  refine C_aload_n dX7_writeTag_8 rfl ?_
  refine C_iload_n dX7_writeTag_9 rfl ?_
  refine C_bipush dX7_writeTag_10 (by decide) ?_
  refine C_sshr8 dX7_writeTag_12 (by omega) ?_
  refine C_sipush dX7_writeTag_13 (by decide) ?_
  refine C_and255 dX7_writeTag_16 ?_
  refine D_callV (As := [vi _]) (d' := 0) (t_mwrite hw1 (Nat.le_refl _) (by omega) (mok_le (by rw [c_mwriteTag]; simp (maxDischargeDepth := 300) only [mle_refl, ↓sl_ite, ↓sl_mwrite]) hr)) dX7_writeTag_17 v_X7_278 (fun h hc => ⟨_, hc.1⟩) rfl (Nat.le_of_ble_eq_true rfl) (by omega) (Nat.le_of_ble_eq_true rfl) ?_
  simp only [Option.toList, List.nil_append, List.cons_append]
  have hw2 : wfm (c_mwrite (c_mwrite σ (v / 65536)) ((v / 256) % 256)) := w_mwrite hw1 (by omega) (mok_le (by rw [c_mwriteTag]; simp (maxDischargeDepth := 300) only [mle_refl, ↓sl_ite, ↓sl_mwrite]) hr)
  refine C_aload_n dX7_writeTag_20 rfl ?_
  refine C_iload_n dX7_writeTag_21 rfl ?_
  refine C_sipush dX7_writeTag_22 (by decide) ?_
  refine C_and255 dX7_writeTag_25 ?_
  refine D_callV (As := [vi _]) (d' := 0) (t_mwrite hw2 (Nat.le_refl _) (by omega) (mok_le (by rw [c_mwriteTag]; simp (maxDischargeDepth := 300) only [mle_refl, ↓sl_ite, ↓sl_mwrite]) hr)) dX7_writeTag_26 v_X7_278 (fun h hc => ⟨_, hc.1⟩) rfl (Nat.le_of_ble_eq_true rfl) (by omega) (Nat.le_of_ble_eq_true rfl) ?_
  simp only [Option.toList, List.nil_append, List.cons_append]
  have hw3 : wfm (c_mwrite (c_mwrite (c_mwrite σ (v / 65536)) ((v / 256) % 256)) (v % 256)) := w_mwrite hw2 (by omega) (mok_le (by rw [c_mwriteTag]; simp (maxDischargeDepth := 300) only [mle_refl, ↓sl_ite, ↓sl_mwrite]) hr)
  refine C_vret dX7_writeTag_29 rfl ⟨rfl, ?_⟩
  rw [c_mwriteTag]
theorem w_mwriteTag {σ : mS} {v : Int} (hw : wfm σ) (hv : 0 ≤ v ∧ v ≤ 16777215) (hr : mok (c_mwriteTag σ v)) : wfm (c_mwriteTag σ v) := by
  unfold c_mwriteTag
  have hw1 : wfm (c_mwrite σ (v / 65536)) := w_mwrite hw (by omega) (mok_le (by rw [c_mwriteTag]; simp (maxDischargeDepth := 300) only [mle_refl, ↓sl_ite, ↓sl_mwrite]) hr)
  have hw2 : wfm (c_mwrite (c_mwrite σ (v / 65536)) ((v / 256) % 256)) := w_mwrite hw1 (by omega) (mok_le (by rw [c_mwriteTag]; simp (maxDischargeDepth := 300) only [mle_refl, ↓sl_ite, ↓sl_mwrite]) hr)
  have hw3 : wfm (c_mwrite (c_mwrite (c_mwrite σ (v / 65536)) ((v / 256) % 256)) (v % 256)) := w_mwrite hw2 (by omega) (mok_le (by rw [c_mwriteTag]; simp (maxDischargeDepth := 300) only [mle_refl, ↓sl_ite, ↓sl_mwrite]) hr)
  exact hw3
theorem g1_mwriteTag {σ : mS} {v : Int} {k : Nat} (h : k ∉ ([48, 50] : List Nat)) : (c_mwriteTag σ v).1 k = σ.1 k := by
  simp only [List.mem_cons, List.not_mem_nil, or_false, not_or] at h
  unfold c_mwriteTag
  (repeat' split) <;> simp [mfl, mar, upF, h, g1_mwrite]
theorem g2_mwriteTag {σ : mS} {v : Int} {k : Nat} (h : k ∉ ([49, 51] : List Nat)) : (c_mwriteTag σ v).2 k = σ.2 k := by
  simp only [List.mem_cons, List.not_mem_nil, or_false, not_or] at h
  unfold c_mwriteTag
  (repeat' split) <;> simp [mfl, mar, upF, h, g2_mwrite]
theorem ml_mwriteTag {σ : mS} {v : Int} : mle σ (c_mwriteTag σ v) := by
  unfold c_mwriteTag
  simp (maxDischargeDepth := 300) only [mle_refl, ↓sl_ite, ↓sl_mwrite]
theorem sl_mwriteTag {v : Int} {ρ τ : mS} (h : mle ρ τ) : mle ρ (c_mwriteTag τ v) := mle_trans h ml_mwriteTag
theorem sz_w {σ : mS} {x c : Int} : c_msizeOf (c_mwrite σ x) c = c_msizeOf σ c := by unfold c_msizeOf; rw [g2_mwrite (by decide)]
def c_mwriteComponentL (c : Int) : Nat → Int → Int → mS → mS
  | 0, _, _, σ => σ
  | fu + 1, n, i, σ => (if n ≤ i then σ else (if (mat (σ.2 31) ((mat (σ.2 30) c) + i)) = 58 then (c_mwriteComponentL c fu n (i + 1) (c_mwrite (c_mwrite σ 63) (mat (σ.2 31) ((mat (σ.2 30) c) + i)))) else (if (mat (σ.2 31) ((mat (σ.2 30) c) + i)) = 43 then (c_mwriteComponentL c fu n (i + 1) (c_mwrite (c_mwrite σ 63) (mat (σ.2 31) ((mat (σ.2 30) c) + i)))) else (if (mat (σ.2 31) ((mat (σ.2 30) c) + i)) = 63 then (c_mwriteComponentL c fu n (i + 1) (c_mwrite (c_mwrite σ 63) (mat (σ.2 31) ((mat (σ.2 30) c) + i)))) else (if (mat (σ.2 31) ((mat (σ.2 30) c) + i)) = 39 then (c_mwriteComponentL c fu n (i + 1) (c_mwrite (c_mwrite σ 63) (mat (σ.2 31) ((mat (σ.2 30) c) + i)))) else (c_mwriteComponentL c fu n (i + 1) (c_mwrite σ (mat (σ.2 31) ((mat (σ.2 30) c) + i)))))))))
def c_mwriteComponent (σ : mS) (c : Int) : mS := (c_mwriteComponentL c (401) (c_msizeOf σ c) 0 σ)
theorem ml_mwriteComponentL {c : Int} {fu : Nat} {v0 v1 : Int} {σ : mS} : mle σ (c_mwriteComponentL c fu v0 v1 σ) := by
  induction fu generalizing σ v0 v1 with
  | zero => exact mle_refl _
  | succ fu ih =>
    have ih2 : ∀ (ρ τ : mS) (v0 v1 : Int), mle ρ τ → mle ρ (c_mwriteComponentL c fu v0 v1 τ) := fun ρ τ _ _ h => mle_trans h ih
    unfold c_mwriteComponentL
    simp (maxDischargeDepth := 300) only [mle_refl, ↓sl_ite, ↓ih2, ↓sl_mwrite, ↓sl_mwriteTag]
theorem sl_mwriteComponentL {c : Int} {v0 : Int} {v1 : Int} {fu : Nat} {ρ τ : mS} (h : mle ρ τ) : mle ρ (c_mwriteComponentL c fu v0 v1 τ) := mle_trans h ml_mwriteComponentL
theorem ml_mwriteComponent {σ : mS} {c : Int} : mle σ (c_mwriteComponent σ c) := by
  unfold c_mwriteComponent
  simp (maxDischargeDepth := 300) only [mle_refl, ↓sl_ite, ↓sl_mwrite, ↓sl_mwriteTag, ↓sl_mwriteComponentL]
theorem sl_mwriteComponent {c : Int} {ρ τ : mS} (h : mle ρ τ) : mle ρ (c_mwriteComponent τ c) := mle_trans h ml_mwriteComponent
theorem t_mwriteComponentL {l : Launch} {G : jG} {d : Nat} {σ : mS} {c : Int} {n i : Int} (hw : wfm σ) (hd : 1 ≤ d) (hc : -1 ≤ c ∧ c ≤ 122) (fu : Nat) (hn : -400 ≤ n ∧ n ≤ 400) (hi : 0 ≤ i ∧ i ≤ 400) (hs1 : n = c_msizeOf σ c) (hr : mok (c_mwriteComponentL c fu n i σ)) (hm : 400 - i < (fu : Int)) : CJ jMod mown l G (Yx mX7_writeComponent) d 0 0 8 [some (.ref 116), some (vi c), some (vi n), some (vi i), none] [] σ (det none (c_mwriteComponentL c fu n i σ)) := by
  induction fu generalizing σ n i with
  | zero => have s1 := ms_def σ c; have s3 := hw.a30 (c + 1); exact absurd hm (by omega)
  | succ fu ih =>
    have s1 := ms_def σ c
    have s3 := hw.a30 (c + 1)
    refine C_iload_n dX7_writeComponent_8 rfl ?_
    refine C_iload_n dX7_writeComponent_9 rfl ?_
    refine C_icmp_ge (tgt := 74) dX7_writeComponent_10 (by decide) (by omega) (by omega) (fun c_10 => ?_) (fun c_10 => ?_)
    · refine C_vret dX7_writeComponent_74 rfl ⟨rfl, ?_⟩
      rw [c_mwriteComponentL, if_pos (by omega)]
    · refine C_aload_n dX7_writeComponent_13 rfl ?_
      refine C_get (v := .ref 133) dX7_writeComponent_14 f_X7_63 (fun h hc => ⟨_, hc.1, rfl⟩) ?_
      refine C_aload_n dX7_writeComponent_17 rfl ?_
      refine C_get (v := .ref 132) dX7_writeComponent_18 f_X7_60 (fun h hc => ⟨_, hc.1, rfl⟩) ?_
      refine C_iload_n dX7_writeComponent_21 rfl ?_
      refine C_iald (v := vi (mat (σ.2 30) c)) dX7_writeComponent_22 (by omega) (by omega) (fun h hc => hc.rd30 hw (by omega) (by omega)) ?_
      have e_22 := hw.a30 c
      refine C_iload_n dX7_writeComponent_23 rfl ?_
      refine C_iadd dX7_writeComponent_24 ?_
      refine C_iald (v := vi (mat (σ.2 31) ((mat (σ.2 30) c) + i))) dX7_writeComponent_25 (by omega) (by omega) (fun h hc => hc.rd31 hw (by omega) (by omega)) ?_
      have e_25 := hw.a31 ((mat (σ.2 30) c) + i)
      refine C_istore dX7_writeComponent_26 (by decide) rfl ?_
      simp only [List.set_cons_zero, List.set_cons_succ, jfin0, jfin1, jfin2, jfin3]
      refine C_iload dX7_writeComponent_28 rfl ?_
      refine C_bipush dX7_writeComponent_30 (by decide) ?_
      refine C_icmp_eq (tgt := 56) dX7_writeComponent_32 (by decide) (by omega) (by omega) (fun c_32 => ?_) (fun c_32 => ?_)
      · refine C_aload_n dX7_writeComponent_56 rfl ?_
        refine C_bipush dX7_writeComponent_57 (by decide) ?_
        refine D_callV (As := [vi _]) (d' := 0) (t_mwrite hw (Nat.le_refl _) (by omega) (mok_le (by rw [c_mwriteComponentL, if_neg (by omega), if_pos (by omega)]; simp (maxDischargeDepth := 300) only [mle_refl, ↓sl_ite, ↓sl_mwrite, ↓sl_mwriteTag, ↓sl_mwriteComponentL, ↓sl_mwriteComponent]) hr)) dX7_writeComponent_59 v_X7_278 (fun h hc => ⟨_, hc.1⟩) rfl (Nat.le_of_ble_eq_true rfl) (by omega) (Nat.le_of_ble_eq_true rfl) ?_
        simp only [Option.toList, List.nil_append, List.cons_append]
        have hw3 : wfm (c_mwrite σ 63) := w_mwrite hw (by omega) (mok_le (by rw [c_mwriteComponentL, if_neg (by omega), if_pos (by omega)]; simp (maxDischargeDepth := 300) only [mle_refl, ↓sl_ite, ↓sl_mwrite, ↓sl_mwriteTag, ↓sl_mwriteComponentL, ↓sl_mwriteComponent]) hr)
        refine C_aload_n dX7_writeComponent_62 rfl ?_
        refine C_iload dX7_writeComponent_63 rfl ?_
        refine D_callV (As := [vi _]) (d' := 0) (t_mwrite hw3 (Nat.le_refl _) (by omega) (mok_le (by rw [c_mwriteComponentL, if_neg (by omega), if_pos (by omega)]; simp (maxDischargeDepth := 300) only [mle_refl, ↓sl_ite, ↓sl_mwrite, ↓sl_mwriteTag, ↓sl_mwriteComponentL, ↓sl_mwriteComponent]) hr)) dX7_writeComponent_65 v_X7_278 (fun h hc => ⟨_, hc.1⟩) rfl (Nat.le_of_ble_eq_true rfl) (by omega) (Nat.le_of_ble_eq_true rfl) ?_
        simp only [Option.toList, List.nil_append, List.cons_append]
        have hw4 : wfm (c_mwrite (c_mwrite σ 63) (mat (σ.2 31) ((mat (σ.2 30) c) + i))) := w_mwrite hw3 (by omega) (mok_le (by rw [c_mwriteComponentL, if_neg (by omega), if_pos (by omega)]; simp (maxDischargeDepth := 300) only [mle_refl, ↓sl_ite, ↓sl_mwrite, ↓sl_mwriteTag, ↓sl_mwriteComponentL, ↓sl_mwriteComponent]) hr)
        refine C_iinc dX7_writeComponent_68 rfl (by decide) rfl ?_
        simp only [List.set_cons_zero, List.set_cons_succ]
        refine C_goto (tgt := 8) dX7_writeComponent_71 (by decide) ?_
        rw [c_mwriteComponentL, if_neg (by omega), if_pos (by omega)]
        refine CJ.mono (ls' := [some (.ref 116), some (vi c), some (vi n), some (vi (i + 1)), none]) (lsub_ok (by repeat (first | exact trivial | refine ⟨rfl, ?_⟩))) (fun _ _ q => q) ?_
        exact ih hw4 (by omega) (by omega) (by first | exact hs1 | rfl | (simp only [sz_w]; exact hs1)) (by rw [c_mwriteComponentL, if_neg (by omega), if_pos (by omega)] at hr; exact hr) (by omega)
      · refine C_iload dX7_writeComponent_35 rfl ?_
        refine C_bipush dX7_writeComponent_37 (by decide) ?_
        refine C_icmp_eq (tgt := 56) dX7_writeComponent_39 (by decide) (by omega) (by omega) (fun c_39 => ?_) (fun c_39 => ?_)
        · refine C_aload_n dX7_writeComponent_56 rfl ?_
          refine C_bipush dX7_writeComponent_57 (by decide) ?_
          refine D_callV (As := [vi _]) (d' := 0) (t_mwrite hw (Nat.le_refl _) (by omega) (mok_le (by rw [c_mwriteComponentL, if_neg (by omega), if_neg (by omega), if_pos (by omega)]; simp (maxDischargeDepth := 300) only [mle_refl, ↓sl_ite, ↓sl_mwrite, ↓sl_mwriteTag, ↓sl_mwriteComponentL, ↓sl_mwriteComponent]) hr)) dX7_writeComponent_59 v_X7_278 (fun h hc => ⟨_, hc.1⟩) rfl (Nat.le_of_ble_eq_true rfl) (by omega) (Nat.le_of_ble_eq_true rfl) ?_
          simp only [Option.toList, List.nil_append, List.cons_append]
          have hw6 : wfm (c_mwrite σ 63) := w_mwrite hw (by omega) (mok_le (by rw [c_mwriteComponentL, if_neg (by omega), if_neg (by omega), if_pos (by omega)]; simp (maxDischargeDepth := 300) only [mle_refl, ↓sl_ite, ↓sl_mwrite, ↓sl_mwriteTag, ↓sl_mwriteComponentL, ↓sl_mwriteComponent]) hr)
          refine C_aload_n dX7_writeComponent_62 rfl ?_
          refine C_iload dX7_writeComponent_63 rfl ?_
          refine D_callV (As := [vi _]) (d' := 0) (t_mwrite hw6 (Nat.le_refl _) (by omega) (mok_le (by rw [c_mwriteComponentL, if_neg (by omega), if_neg (by omega), if_pos (by omega)]; simp (maxDischargeDepth := 300) only [mle_refl, ↓sl_ite, ↓sl_mwrite, ↓sl_mwriteTag, ↓sl_mwriteComponentL, ↓sl_mwriteComponent]) hr)) dX7_writeComponent_65 v_X7_278 (fun h hc => ⟨_, hc.1⟩) rfl (Nat.le_of_ble_eq_true rfl) (by omega) (Nat.le_of_ble_eq_true rfl) ?_
          simp only [Option.toList, List.nil_append, List.cons_append]
          have hw7 : wfm (c_mwrite (c_mwrite σ 63) (mat (σ.2 31) ((mat (σ.2 30) c) + i))) := w_mwrite hw6 (by omega) (mok_le (by rw [c_mwriteComponentL, if_neg (by omega), if_neg (by omega), if_pos (by omega)]; simp (maxDischargeDepth := 300) only [mle_refl, ↓sl_ite, ↓sl_mwrite, ↓sl_mwriteTag, ↓sl_mwriteComponentL, ↓sl_mwriteComponent]) hr)
          refine C_iinc dX7_writeComponent_68 rfl (by decide) rfl ?_
          simp only [List.set_cons_zero, List.set_cons_succ]
          refine C_goto (tgt := 8) dX7_writeComponent_71 (by decide) ?_
          rw [c_mwriteComponentL, if_neg (by omega), if_neg (by omega), if_pos (by omega)]
          refine CJ.mono (ls' := [some (.ref 116), some (vi c), some (vi n), some (vi (i + 1)), none]) (lsub_ok (by repeat (first | exact trivial | refine ⟨rfl, ?_⟩))) (fun _ _ q => q) ?_
          exact ih hw7 (by omega) (by omega) (by first | exact hs1 | rfl | (simp only [sz_w]; exact hs1)) (by rw [c_mwriteComponentL, if_neg (by omega), if_neg (by omega), if_pos (by omega)] at hr; exact hr) (by omega)
        · refine C_iload dX7_writeComponent_42 rfl ?_
          refine C_bipush dX7_writeComponent_44 (by decide) ?_
          refine C_icmp_eq (tgt := 56) dX7_writeComponent_46 (by decide) (by omega) (by omega) (fun c_46 => ?_) (fun c_46 => ?_)
          · refine C_aload_n dX7_writeComponent_56 rfl ?_
            refine C_bipush dX7_writeComponent_57 (by decide) ?_
            refine D_callV (As := [vi _]) (d' := 0) (t_mwrite hw (Nat.le_refl _) (by omega) (mok_le (by rw [c_mwriteComponentL, if_neg (by omega), if_neg (by omega), if_neg (by omega), if_pos (by omega)]; simp (maxDischargeDepth := 300) only [mle_refl, ↓sl_ite, ↓sl_mwrite, ↓sl_mwriteTag, ↓sl_mwriteComponentL, ↓sl_mwriteComponent]) hr)) dX7_writeComponent_59 v_X7_278 (fun h hc => ⟨_, hc.1⟩) rfl (Nat.le_of_ble_eq_true rfl) (by omega) (Nat.le_of_ble_eq_true rfl) ?_
            simp only [Option.toList, List.nil_append, List.cons_append]
            have hw9 : wfm (c_mwrite σ 63) := w_mwrite hw (by omega) (mok_le (by rw [c_mwriteComponentL, if_neg (by omega), if_neg (by omega), if_neg (by omega), if_pos (by omega)]; simp (maxDischargeDepth := 300) only [mle_refl, ↓sl_ite, ↓sl_mwrite, ↓sl_mwriteTag, ↓sl_mwriteComponentL, ↓sl_mwriteComponent]) hr)
            refine C_aload_n dX7_writeComponent_62 rfl ?_
            refine C_iload dX7_writeComponent_63 rfl ?_
            refine D_callV (As := [vi _]) (d' := 0) (t_mwrite hw9 (Nat.le_refl _) (by omega) (mok_le (by rw [c_mwriteComponentL, if_neg (by omega), if_neg (by omega), if_neg (by omega), if_pos (by omega)]; simp (maxDischargeDepth := 300) only [mle_refl, ↓sl_ite, ↓sl_mwrite, ↓sl_mwriteTag, ↓sl_mwriteComponentL, ↓sl_mwriteComponent]) hr)) dX7_writeComponent_65 v_X7_278 (fun h hc => ⟨_, hc.1⟩) rfl (Nat.le_of_ble_eq_true rfl) (by omega) (Nat.le_of_ble_eq_true rfl) ?_
            simp only [Option.toList, List.nil_append, List.cons_append]
            have hw10 : wfm (c_mwrite (c_mwrite σ 63) (mat (σ.2 31) ((mat (σ.2 30) c) + i))) := w_mwrite hw9 (by omega) (mok_le (by rw [c_mwriteComponentL, if_neg (by omega), if_neg (by omega), if_neg (by omega), if_pos (by omega)]; simp (maxDischargeDepth := 300) only [mle_refl, ↓sl_ite, ↓sl_mwrite, ↓sl_mwriteTag, ↓sl_mwriteComponentL, ↓sl_mwriteComponent]) hr)
            refine C_iinc dX7_writeComponent_68 rfl (by decide) rfl ?_
            simp only [List.set_cons_zero, List.set_cons_succ]
            refine C_goto (tgt := 8) dX7_writeComponent_71 (by decide) ?_
            rw [c_mwriteComponentL, if_neg (by omega), if_neg (by omega), if_neg (by omega), if_pos (by omega)]
            refine CJ.mono (ls' := [some (.ref 116), some (vi c), some (vi n), some (vi (i + 1)), none]) (lsub_ok (by repeat (first | exact trivial | refine ⟨rfl, ?_⟩))) (fun _ _ q => q) ?_
            exact ih hw10 (by omega) (by omega) (by first | exact hs1 | rfl | (simp only [sz_w]; exact hs1)) (by rw [c_mwriteComponentL, if_neg (by omega), if_neg (by omega), if_neg (by omega), if_pos (by omega)] at hr; exact hr) (by omega)
          · refine C_iload dX7_writeComponent_49 rfl ?_
            refine C_bipush dX7_writeComponent_51 (by decide) ?_
            refine C_icmp_ne (tgt := 62) dX7_writeComponent_53 (by decide) (by omega) (by omega) (fun c_53 => ?_) (fun c_53 => ?_)
            · refine C_aload_n dX7_writeComponent_62 rfl ?_
              refine C_iload dX7_writeComponent_63 rfl ?_
              refine D_callV (As := [vi _]) (d' := 0) (t_mwrite hw (Nat.le_refl _) (by omega) (mok_le (by rw [c_mwriteComponentL, if_neg (by omega), if_neg (by omega), if_neg (by omega), if_neg (by omega), if_neg (by omega)]; simp (maxDischargeDepth := 300) only [mle_refl, ↓sl_ite, ↓sl_mwrite, ↓sl_mwriteTag, ↓sl_mwriteComponentL, ↓sl_mwriteComponent]) hr)) dX7_writeComponent_65 v_X7_278 (fun h hc => ⟨_, hc.1⟩) rfl (Nat.le_of_ble_eq_true rfl) (by omega) (Nat.le_of_ble_eq_true rfl) ?_
              simp only [Option.toList, List.nil_append, List.cons_append]
              have hw12 : wfm (c_mwrite σ (mat (σ.2 31) ((mat (σ.2 30) c) + i))) := w_mwrite hw (by omega) (mok_le (by rw [c_mwriteComponentL, if_neg (by omega), if_neg (by omega), if_neg (by omega), if_neg (by omega), if_neg (by omega)]; simp (maxDischargeDepth := 300) only [mle_refl, ↓sl_ite, ↓sl_mwrite, ↓sl_mwriteTag, ↓sl_mwriteComponentL, ↓sl_mwriteComponent]) hr)
              refine C_iinc dX7_writeComponent_68 rfl (by decide) rfl ?_
              simp only [List.set_cons_zero, List.set_cons_succ]
              refine C_goto (tgt := 8) dX7_writeComponent_71 (by decide) ?_
              rw [c_mwriteComponentL, if_neg (by omega), if_neg (by omega), if_neg (by omega), if_neg (by omega), if_neg (by omega)]
              refine CJ.mono (ls' := [some (.ref 116), some (vi c), some (vi n), some (vi (i + 1)), none]) (lsub_ok (by repeat (first | exact trivial | refine ⟨rfl, ?_⟩))) (fun _ _ q => q) ?_
              exact ih hw12 (by omega) (by omega) (by first | exact hs1 | rfl | (simp only [sz_w]; exact hs1)) (by rw [c_mwriteComponentL, if_neg (by omega), if_neg (by omega), if_neg (by omega), if_neg (by omega), if_neg (by omega)] at hr; exact hr) (by omega)
            · refine C_aload_n dX7_writeComponent_56 rfl ?_
              refine C_bipush dX7_writeComponent_57 (by decide) ?_
              refine D_callV (As := [vi _]) (d' := 0) (t_mwrite hw (Nat.le_refl _) (by omega) (mok_le (by rw [c_mwriteComponentL, if_neg (by omega), if_neg (by omega), if_neg (by omega), if_neg (by omega), if_pos (by omega)]; simp (maxDischargeDepth := 300) only [mle_refl, ↓sl_ite, ↓sl_mwrite, ↓sl_mwriteTag, ↓sl_mwriteComponentL, ↓sl_mwriteComponent]) hr)) dX7_writeComponent_59 v_X7_278 (fun h hc => ⟨_, hc.1⟩) rfl (Nat.le_of_ble_eq_true rfl) (by omega) (Nat.le_of_ble_eq_true rfl) ?_
              simp only [Option.toList, List.nil_append, List.cons_append]
              have hw13 : wfm (c_mwrite σ 63) := w_mwrite hw (by omega) (mok_le (by rw [c_mwriteComponentL, if_neg (by omega), if_neg (by omega), if_neg (by omega), if_neg (by omega), if_pos (by omega)]; simp (maxDischargeDepth := 300) only [mle_refl, ↓sl_ite, ↓sl_mwrite, ↓sl_mwriteTag, ↓sl_mwriteComponentL, ↓sl_mwriteComponent]) hr)
              refine C_aload_n dX7_writeComponent_62 rfl ?_
              refine C_iload dX7_writeComponent_63 rfl ?_
              refine D_callV (As := [vi _]) (d' := 0) (t_mwrite hw13 (Nat.le_refl _) (by omega) (mok_le (by rw [c_mwriteComponentL, if_neg (by omega), if_neg (by omega), if_neg (by omega), if_neg (by omega), if_pos (by omega)]; simp (maxDischargeDepth := 300) only [mle_refl, ↓sl_ite, ↓sl_mwrite, ↓sl_mwriteTag, ↓sl_mwriteComponentL, ↓sl_mwriteComponent]) hr)) dX7_writeComponent_65 v_X7_278 (fun h hc => ⟨_, hc.1⟩) rfl (Nat.le_of_ble_eq_true rfl) (by omega) (Nat.le_of_ble_eq_true rfl) ?_
              simp only [Option.toList, List.nil_append, List.cons_append]
              have hw14 : wfm (c_mwrite (c_mwrite σ 63) (mat (σ.2 31) ((mat (σ.2 30) c) + i))) := w_mwrite hw13 (by omega) (mok_le (by rw [c_mwriteComponentL, if_neg (by omega), if_neg (by omega), if_neg (by omega), if_neg (by omega), if_pos (by omega)]; simp (maxDischargeDepth := 300) only [mle_refl, ↓sl_ite, ↓sl_mwrite, ↓sl_mwriteTag, ↓sl_mwriteComponentL, ↓sl_mwriteComponent]) hr)
              refine C_iinc dX7_writeComponent_68 rfl (by decide) rfl ?_
              simp only [List.set_cons_zero, List.set_cons_succ]
              refine C_goto (tgt := 8) dX7_writeComponent_71 (by decide) ?_
              rw [c_mwriteComponentL, if_neg (by omega), if_neg (by omega), if_neg (by omega), if_neg (by omega), if_pos (by omega)]
              refine CJ.mono (ls' := [some (.ref 116), some (vi c), some (vi n), some (vi (i + 1)), none]) (lsub_ok (by repeat (first | exact trivial | refine ⟨rfl, ?_⟩))) (fun _ _ q => q) ?_
              exact ih hw14 (by omega) (by omega) (by first | exact hs1 | rfl | (simp only [sz_w]; exact hs1)) (by rw [c_mwriteComponentL, if_neg (by omega), if_neg (by omega), if_neg (by omega), if_neg (by omega), if_pos (by omega)] at hr; exact hr) (by omega)
theorem t_mwriteComponent {l : Launch} {G : jG} {d : Nat} {σ : mS} {c : Int} (hw : wfm σ) (hd : 1 ≤ d) (hc : -1 ≤ c ∧ c ≤ 122) (hr : mok (c_mwriteComponent σ c)) : CJ jMod mown l G (Yx mX7_writeComponent) d 0 0 0 [some (.ref 116), some (vi c), none, none, none] [] σ (det none (c_mwriteComponent σ c)) := by
  refine C_aload_n dX7_writeComponent_0 rfl ?_
  refine C_iload_n dX7_writeComponent_1 rfl ?_
  refine D_callV (As := [vi _]) (d' := 0) (t_msizeOf hw (Nat.le_refl _) (by omega)) dX7_writeComponent_2 v_X7_202 (fun h hc => ⟨_, hc.1⟩) rfl (Nat.le_of_ble_eq_true rfl) (by omega) (Nat.le_of_ble_eq_true rfl) ?_
  simp only [Option.toList, List.nil_append, List.cons_append]
  have r_2 := And.intro (r_msizeOf (c := c) hw (by omega)) (And.intro (ms_def σ c) (And.intro (hw.a30 (c + 1)) (hw.a30 c)))
  refine C_istore_n dX7_writeComponent_5 (by decide) rfl ?_
  simp only [List.set_cons_zero, List.set_cons_succ, jfin0, jfin1, jfin2, jfin3]
  refine C_iconst dX7_writeComponent_6 ?_
  refine C_istore_n dX7_writeComponent_7 (by decide) rfl ?_
  simp only [List.set_cons_zero, List.set_cons_succ, jfin0, jfin1, jfin2, jfin3]
  rw [c_mwriteComponent]
  refine CJ.mono (ls' := [some (.ref 116), some (vi c), some (vi (c_msizeOf σ c)), some (vi 0), none]) (lsub_ok (by repeat (first | exact trivial | refine ⟨rfl, ?_⟩))) (fun _ _ q => q) ?_
  exact t_mwriteComponentL hw hd hc (401) (by omega) (by omega) (by first | exact hs1 | rfl | (simp only [sz_w]; exact hs1)) (by rw [c_mwriteComponent] at hr; exact hr) (by omega)
theorem w_mwriteComponentL {σ : mS} {c : Int} {n i : Int} (hw : wfm σ) (hc : -1 ≤ c ∧ c ≤ 122) (fu : Nat) (hn : -400 ≤ n ∧ n ≤ 400) (hi : 0 ≤ i ∧ i ≤ 400) (hs1 : n = c_msizeOf σ c) (hr : mok (c_mwriteComponentL c fu n i σ)) : wfm (c_mwriteComponentL c fu n i σ) := by
  induction fu generalizing σ n i with
  | zero => exact hw
  | succ fu ih =>
    have s1 := ms_def σ c
    have s3 := hw.a30 (c + 1)
    unfold c_mwriteComponentL
    split
    · exact hw
    · split
      · have e_22 := hw.a30 c
        have e_25 := hw.a31 ((mat (σ.2 30) c) + i)
        have hw3 : wfm (c_mwrite σ 63) := w_mwrite hw (by omega) (mok_le (by rw [c_mwriteComponentL, if_neg (by omega), if_pos (by omega)]; simp (maxDischargeDepth := 300) only [mle_refl, ↓sl_ite, ↓sl_mwrite, ↓sl_mwriteTag, ↓sl_mwriteComponentL, ↓sl_mwriteComponent]) hr)
        have hw4 : wfm (c_mwrite (c_mwrite σ 63) (mat (σ.2 31) ((mat (σ.2 30) c) + i))) := w_mwrite hw3 (by omega) (mok_le (by rw [c_mwriteComponentL, if_neg (by omega), if_pos (by omega)]; simp (maxDischargeDepth := 300) only [mle_refl, ↓sl_ite, ↓sl_mwrite, ↓sl_mwriteTag, ↓sl_mwriteComponentL, ↓sl_mwriteComponent]) hr)
        exact ih hw4 (by omega) (by omega) (by first | exact hs1 | rfl | (simp only [sz_w]; exact hs1)) (by rw [c_mwriteComponentL, if_neg (by omega), if_pos (by omega)] at hr; exact hr)
      · split
        · have e_22 := hw.a30 c
          have e_25 := hw.a31 ((mat (σ.2 30) c) + i)
          have hw6 : wfm (c_mwrite σ 63) := w_mwrite hw (by omega) (mok_le (by rw [c_mwriteComponentL, if_neg (by omega), if_neg (by omega), if_pos (by omega)]; simp (maxDischargeDepth := 300) only [mle_refl, ↓sl_ite, ↓sl_mwrite, ↓sl_mwriteTag, ↓sl_mwriteComponentL, ↓sl_mwriteComponent]) hr)
          have hw7 : wfm (c_mwrite (c_mwrite σ 63) (mat (σ.2 31) ((mat (σ.2 30) c) + i))) := w_mwrite hw6 (by omega) (mok_le (by rw [c_mwriteComponentL, if_neg (by omega), if_neg (by omega), if_pos (by omega)]; simp (maxDischargeDepth := 300) only [mle_refl, ↓sl_ite, ↓sl_mwrite, ↓sl_mwriteTag, ↓sl_mwriteComponentL, ↓sl_mwriteComponent]) hr)
          exact ih hw7 (by omega) (by omega) (by first | exact hs1 | rfl | (simp only [sz_w]; exact hs1)) (by rw [c_mwriteComponentL, if_neg (by omega), if_neg (by omega), if_pos (by omega)] at hr; exact hr)
        · split
          · have e_22 := hw.a30 c
            have e_25 := hw.a31 ((mat (σ.2 30) c) + i)
            have hw9 : wfm (c_mwrite σ 63) := w_mwrite hw (by omega) (mok_le (by rw [c_mwriteComponentL, if_neg (by omega), if_neg (by omega), if_neg (by omega), if_pos (by omega)]; simp (maxDischargeDepth := 300) only [mle_refl, ↓sl_ite, ↓sl_mwrite, ↓sl_mwriteTag, ↓sl_mwriteComponentL, ↓sl_mwriteComponent]) hr)
            have hw10 : wfm (c_mwrite (c_mwrite σ 63) (mat (σ.2 31) ((mat (σ.2 30) c) + i))) := w_mwrite hw9 (by omega) (mok_le (by rw [c_mwriteComponentL, if_neg (by omega), if_neg (by omega), if_neg (by omega), if_pos (by omega)]; simp (maxDischargeDepth := 300) only [mle_refl, ↓sl_ite, ↓sl_mwrite, ↓sl_mwriteTag, ↓sl_mwriteComponentL, ↓sl_mwriteComponent]) hr)
            exact ih hw10 (by omega) (by omega) (by first | exact hs1 | rfl | (simp only [sz_w]; exact hs1)) (by rw [c_mwriteComponentL, if_neg (by omega), if_neg (by omega), if_neg (by omega), if_pos (by omega)] at hr; exact hr)
          · split
            · have e_22 := hw.a30 c
              have e_25 := hw.a31 ((mat (σ.2 30) c) + i)
              have hw13 : wfm (c_mwrite σ 63) := w_mwrite hw (by omega) (mok_le (by rw [c_mwriteComponentL, if_neg (by omega), if_neg (by omega), if_neg (by omega), if_neg (by omega), if_pos (by omega)]; simp (maxDischargeDepth := 300) only [mle_refl, ↓sl_ite, ↓sl_mwrite, ↓sl_mwriteTag, ↓sl_mwriteComponentL, ↓sl_mwriteComponent]) hr)
              have hw14 : wfm (c_mwrite (c_mwrite σ 63) (mat (σ.2 31) ((mat (σ.2 30) c) + i))) := w_mwrite hw13 (by omega) (mok_le (by rw [c_mwriteComponentL, if_neg (by omega), if_neg (by omega), if_neg (by omega), if_neg (by omega), if_pos (by omega)]; simp (maxDischargeDepth := 300) only [mle_refl, ↓sl_ite, ↓sl_mwrite, ↓sl_mwriteTag, ↓sl_mwriteComponentL, ↓sl_mwriteComponent]) hr)
              exact ih hw14 (by omega) (by omega) (by first | exact hs1 | rfl | (simp only [sz_w]; exact hs1)) (by rw [c_mwriteComponentL, if_neg (by omega), if_neg (by omega), if_neg (by omega), if_neg (by omega), if_pos (by omega)] at hr; exact hr)
            · have e_22 := hw.a30 c
              have e_25 := hw.a31 ((mat (σ.2 30) c) + i)
              have hw12 : wfm (c_mwrite σ (mat (σ.2 31) ((mat (σ.2 30) c) + i))) := w_mwrite hw (by omega) (mok_le (by rw [c_mwriteComponentL, if_neg (by omega), if_neg (by omega), if_neg (by omega), if_neg (by omega), if_neg (by omega)]; simp (maxDischargeDepth := 300) only [mle_refl, ↓sl_ite, ↓sl_mwrite, ↓sl_mwriteTag, ↓sl_mwriteComponentL, ↓sl_mwriteComponent]) hr)
              exact ih hw12 (by omega) (by omega) (by first | exact hs1 | rfl | (simp only [sz_w]; exact hs1)) (by rw [c_mwriteComponentL, if_neg (by omega), if_neg (by omega), if_neg (by omega), if_neg (by omega), if_neg (by omega)] at hr; exact hr)
theorem w_mwriteComponent {σ : mS} {c : Int} (hw : wfm σ) (hc : -1 ≤ c ∧ c ≤ 122) (hr : mok (c_mwriteComponent σ c)) : wfm (c_mwriteComponent σ c) := by
  unfold c_mwriteComponent
  have r_2 := And.intro (r_msizeOf (c := c) hw (by omega)) (And.intro (ms_def σ c) (And.intro (hw.a30 (c + 1)) (hw.a30 c)))
  exact w_mwriteComponentL hw hc (401) (by omega) (by omega) (by first | exact hs1 | rfl | (simp only [sz_w]; exact hs1)) (by rw [c_mwriteComponent] at hr; exact hr)
theorem g1_mwriteComponentL {c : Int} (fu : Nat) (v0 v1 : Int) (σ : mS) {k : Nat} (h : k ∉ ([48, 50] : List Nat)) : (c_mwriteComponentL c fu v0 v1 σ).1 k = σ.1 k := by
  simp only [List.mem_cons, List.not_mem_nil, or_false, not_or] at h
  induction fu generalizing σ v0 v1 with
  | zero => rfl
  | succ fu ih =>
    unfold c_mwriteComponentL
    (repeat' split) <;> simp [mfl, mar, upF, h, ih, g1_mwrite]
theorem g1_mwriteComponent {σ : mS} {c : Int} {k : Nat} (h : k ∉ ([48, 50] : List Nat)) : (c_mwriteComponent σ c).1 k = σ.1 k := by
  simp only [List.mem_cons, List.not_mem_nil, or_false, not_or] at h
  unfold c_mwriteComponent
  (repeat' split) <;> simp [mfl, mar, upF, h, g1_mwrite, g1_mwriteComponentL]
theorem g2_mwriteComponentL {c : Int} (fu : Nat) (v0 v1 : Int) (σ : mS) {k : Nat} (h : k ∉ ([49, 51] : List Nat)) : (c_mwriteComponentL c fu v0 v1 σ).2 k = σ.2 k := by
  simp only [List.mem_cons, List.not_mem_nil, or_false, not_or] at h
  induction fu generalizing σ v0 v1 with
  | zero => rfl
  | succ fu ih =>
    unfold c_mwriteComponentL
    (repeat' split) <;> simp [mfl, mar, upF, h, ih, g2_mwrite]
theorem g2_mwriteComponent {σ : mS} {c : Int} {k : Nat} (h : k ∉ ([49, 51] : List Nat)) : (c_mwriteComponent σ c).2 k = σ.2 k := by
  simp only [List.mem_cons, List.not_mem_nil, or_false, not_or] at h
  unfold c_mwriteComponent
  (repeat' split) <;> simp [mfl, mar, upF, h, g2_mwrite, g2_mwriteComponentL]
def c_mwriteNumberL (v : Int) : Nat → Int → mS → mS
  | 0, _, σ => σ
  | fu + 1, e, σ => (if e ≤ 0 then σ else (c_mwriteNumberL v fu (e / 10) (c_mwrite σ (48 + ((v / e) % 10)))))
def c_mwriteNumber (σ : mS) (v : Int) : mS := (if v ≤ 99 then (if v ≤ 9 then (c_mwriteNumberL v (101) 1 σ) else (c_mwriteNumberL v (101) 10 σ)) else (c_mwriteNumberL v (101) 100 σ))
theorem ml_mwriteNumberL {v : Int} {fu : Nat} {v0 : Int} {σ : mS} : mle σ (c_mwriteNumberL v fu v0 σ) := by
  induction fu generalizing σ v0 with
  | zero => exact mle_refl _
  | succ fu ih =>
    have ih2 : ∀ (ρ τ : mS) (v0 : Int), mle ρ τ → mle ρ (c_mwriteNumberL v fu v0 τ) := fun ρ τ _ h => mle_trans h ih
    unfold c_mwriteNumberL
    simp (maxDischargeDepth := 300) only [mle_refl, ↓sl_ite, ↓ih2, ↓sl_mwrite, ↓sl_mwriteTag, ↓sl_mwriteComponentL, ↓sl_mwriteComponent]
theorem sl_mwriteNumberL {v : Int} {v0 : Int} {fu : Nat} {ρ τ : mS} (h : mle ρ τ) : mle ρ (c_mwriteNumberL v fu v0 τ) := mle_trans h ml_mwriteNumberL
theorem ml_mwriteNumber {σ : mS} {v : Int} : mle σ (c_mwriteNumber σ v) := by
  unfold c_mwriteNumber
  simp (maxDischargeDepth := 300) only [mle_refl, ↓sl_ite, ↓sl_mwrite, ↓sl_mwriteTag, ↓sl_mwriteComponentL, ↓sl_mwriteComponent, ↓sl_mwriteNumberL]
theorem sl_mwriteNumber {v : Int} {ρ τ : mS} (h : mle ρ τ) : mle ρ (c_mwriteNumber τ v) := mle_trans h ml_mwriteNumber
theorem t_mwriteNumberL {l : Launch} {G : jG} {d : Nat} {σ : mS} {v : Int} {e : Int} (hw : wfm σ) (hd : 1 ≤ d) (hv : 0 ≤ v ∧ v ≤ 999) (fu : Nat) (he : 0 ≤ e ∧ e ≤ 100) (hr : mok (c_mwriteNumberL v fu e σ)) (hm : e < (fu : Int)) : CJ jMod mown l G (Yx mX7_writeNumber) d 0 0 24 [some (.ref 116), some (vi v), some (vi e)] [] σ (det none (c_mwriteNumberL v fu e σ)) := by
  induction fu generalizing σ e with
  | zero => have dv1 : 0 ≤ v / e := Int.ediv_nonneg (by omega) (by omega); have dv2 : v / e ≤ v := Int.ediv_le_self _ (by omega); exact absurd hm (by omega)
  | succ fu ih =>
    have dv1 : 0 ≤ v / e := Int.ediv_nonneg (by omega) (by omega)
    have dv2 : v / e ≤ v := Int.ediv_le_self _ (by omega)
    refine C_iload_n dX7_writeNumber_24 rfl ?_
    refine C_if_le (tgt := 49) dX7_writeNumber_25 (by decide) (by omega) (fun c_25 => ?_) (fun c_25 => ?_)
    · refine C_vret dX7_writeNumber_49 rfl ⟨rfl, ?_⟩
      rw [c_mwriteNumberL, if_pos (by omega)]
    · refine C_aload_n dX7_writeNumber_28 rfl ?_
      refine C_bipush dX7_writeNumber_29 (by decide) ?_
      refine C_iload_n dX7_writeNumber_31 rfl ?_
      refine C_iload_n dX7_writeNumber_32 rfl ?_
      refine C_idiv dX7_writeNumber_33 (by omega) (by omega) (by omega) (by omega) ?_
      refine C_bipush dX7_writeNumber_34 (by decide) ?_
      refine C_irem dX7_writeNumber_36 (by omega) (by omega) (by omega) (by omega) ?_
      refine C_iadd dX7_writeNumber_37 ?_
      refine D_callV (As := [vi _]) (d' := 0) (t_mwrite hw (Nat.le_refl _) (by omega) (mok_le (by rw [c_mwriteNumberL, if_neg (by omega)]; simp (maxDischargeDepth := 300) only [mle_refl, ↓sl_ite, ↓sl_mwrite, ↓sl_mwriteTag, ↓sl_mwriteComponentL, ↓sl_mwriteComponent, ↓sl_mwriteNumberL, ↓sl_mwriteNumber]) hr)) dX7_writeNumber_38 v_X7_278 (fun h hc => ⟨_, hc.1⟩) rfl (Nat.le_of_ble_eq_true rfl) (by omega) (Nat.le_of_ble_eq_true rfl) ?_
      simp only [Option.toList, List.nil_append, List.cons_append]
      have hw2 : wfm (c_mwrite σ (48 + ((v / e) % 10))) := w_mwrite hw (by omega) (mok_le (by rw [c_mwriteNumberL, if_neg (by omega)]; simp (maxDischargeDepth := 300) only [mle_refl, ↓sl_ite, ↓sl_mwrite, ↓sl_mwriteTag, ↓sl_mwriteComponentL, ↓sl_mwriteComponent, ↓sl_mwriteNumberL, ↓sl_mwriteNumber]) hr)
      refine C_iload_n dX7_writeNumber_41 rfl ?_
      refine C_bipush dX7_writeNumber_42 (by decide) ?_
      refine C_idiv dX7_writeNumber_44 (by omega) (by omega) (by omega) (by omega) ?_
      refine C_istore_n dX7_writeNumber_45 (by decide) rfl ?_
      simp only [List.set_cons_zero, List.set_cons_succ, jfin0, jfin1, jfin2, jfin3]
      refine C_goto (tgt := 24) dX7_writeNumber_46 (by decide) ?_
      rw [c_mwriteNumberL, if_neg (by omega)]
      refine CJ.mono (ls' := [some (.ref 116), some (vi v), some (vi (e / 10))]) (lsub_ok (by repeat (first | exact trivial | refine ⟨rfl, ?_⟩))) (fun _ _ q => q) ?_
      exact ih hw2 (by omega) (by rw [c_mwriteNumberL, if_neg (by omega)] at hr; exact hr) (by omega)
theorem t_mwriteNumber {l : Launch} {G : jG} {d : Nat} {σ : mS} {v : Int} (hw : wfm σ) (hd : 1 ≤ d) (hv : 0 ≤ v ∧ v ≤ 999) (hr : mok (c_mwriteNumber σ v)) : CJ jMod mown l G (Yx mX7_writeNumber) d 0 0 0 [some (.ref 116), some (vi v), none] [] σ (det none (c_mwriteNumber σ v)) := by
  refine C_iload_n dX7_writeNumber_0 rfl ?_
  refine C_bipush dX7_writeNumber_1 (by decide) ?_
  refine C_icmp_le (tgt := 11) dX7_writeNumber_3 (by decide) (by omega) (by omega) (fun c_3 => ?_) (fun c_3 => ?_)
  · refine C_iload_n dX7_writeNumber_11 rfl ?_
    refine C_bipush dX7_writeNumber_12 (by decide) ?_
    refine C_icmp_le (tgt := 22) dX7_writeNumber_14 (by decide) (by omega) (by omega) (fun c_14 => ?_) (fun c_14 => ?_)
    · refine C_iconst dX7_writeNumber_22 ?_
      refine C_istore_n dX7_writeNumber_23 (by decide) rfl ?_
      simp only [List.set_cons_zero, List.set_cons_succ, jfin0, jfin1, jfin2, jfin3]
      rw [c_mwriteNumber, if_pos (by omega), if_pos (by omega)]
      refine CJ.mono (ls' := [some (.ref 116), some (vi v), some (vi 1)]) (lsub_ok (by repeat (first | exact trivial | refine ⟨rfl, ?_⟩))) (fun _ _ q => q) ?_
      exact t_mwriteNumberL hw hd hv (101) (by omega) (by rw [c_mwriteNumber, if_pos (by omega), if_pos (by omega)] at hr; exact hr) (by omega)
    · refine C_bipush dX7_writeNumber_17 (by decide) ?_
      refine C_goto (tgt := 23) dX7_writeNumber_19 (by decide) ?_
      refine C_istore_n dX7_writeNumber_23 (by decide) rfl ?_
      simp only [List.set_cons_zero, List.set_cons_succ, jfin0, jfin1, jfin2, jfin3]
      rw [c_mwriteNumber, if_pos (by omega), if_neg (by omega)]
      refine CJ.mono (ls' := [some (.ref 116), some (vi v), some (vi 10)]) (lsub_ok (by repeat (first | exact trivial | refine ⟨rfl, ?_⟩))) (fun _ _ q => q) ?_
      exact t_mwriteNumberL hw hd hv (101) (by omega) (by rw [c_mwriteNumber, if_pos (by omega), if_neg (by omega)] at hr; exact hr) (by omega)
  · refine C_bipush dX7_writeNumber_6 (by decide) ?_
    refine C_goto (tgt := 23) dX7_writeNumber_8 (by decide) ?_
    refine C_istore_n dX7_writeNumber_23 (by decide) rfl ?_
    simp only [List.set_cons_zero, List.set_cons_succ, jfin0, jfin1, jfin2, jfin3]
    rw [c_mwriteNumber, if_neg (by omega)]
    refine CJ.mono (ls' := [some (.ref 116), some (vi v), some (vi 100)]) (lsub_ok (by repeat (first | exact trivial | refine ⟨rfl, ?_⟩))) (fun _ _ q => q) ?_
    exact t_mwriteNumberL hw hd hv (101) (by omega) (by rw [c_mwriteNumber, if_neg (by omega)] at hr; exact hr) (by omega)
theorem w_mwriteNumberL {σ : mS} {v : Int} {e : Int} (hw : wfm σ) (hv : 0 ≤ v ∧ v ≤ 999) (fu : Nat) (he : 0 ≤ e ∧ e ≤ 100) (hr : mok (c_mwriteNumberL v fu e σ)) : wfm (c_mwriteNumberL v fu e σ) := by
  induction fu generalizing σ e with
  | zero => exact hw
  | succ fu ih =>
    have dv1 : 0 ≤ v / e := Int.ediv_nonneg (by omega) (by omega)
    have dv2 : v / e ≤ v := Int.ediv_le_self _ (by omega)
    unfold c_mwriteNumberL
    split
    · exact hw
    · have hw2 : wfm (c_mwrite σ (48 + ((v / e) % 10))) := w_mwrite hw (by omega) (mok_le (by rw [c_mwriteNumberL, if_neg (by omega)]; simp (maxDischargeDepth := 300) only [mle_refl, ↓sl_ite, ↓sl_mwrite, ↓sl_mwriteTag, ↓sl_mwriteComponentL, ↓sl_mwriteComponent, ↓sl_mwriteNumberL, ↓sl_mwriteNumber]) hr)
      exact ih hw2 (by omega) (by rw [c_mwriteNumberL, if_neg (by omega)] at hr; exact hr)
theorem w_mwriteNumber {σ : mS} {v : Int} (hw : wfm σ) (hv : 0 ≤ v ∧ v ≤ 999) (hr : mok (c_mwriteNumber σ v)) : wfm (c_mwriteNumber σ v) := by
  unfold c_mwriteNumber
  split
  · split
    · exact w_mwriteNumberL hw hv (101) (by omega) (by rw [c_mwriteNumber, if_pos (by omega), if_pos (by omega)] at hr; exact hr)
    · exact w_mwriteNumberL hw hv (101) (by omega) (by rw [c_mwriteNumber, if_pos (by omega), if_neg (by omega)] at hr; exact hr)
  · exact w_mwriteNumberL hw hv (101) (by omega) (by rw [c_mwriteNumber, if_neg (by omega)] at hr; exact hr)
theorem g1_mwriteNumberL {v : Int} (fu : Nat) (v0 : Int) (σ : mS) {k : Nat} (h : k ∉ ([48, 50] : List Nat)) : (c_mwriteNumberL v fu v0 σ).1 k = σ.1 k := by
  simp only [List.mem_cons, List.not_mem_nil, or_false, not_or] at h
  induction fu generalizing σ v0 with
  | zero => rfl
  | succ fu ih =>
    unfold c_mwriteNumberL
    (repeat' split) <;> simp [mfl, mar, upF, h, ih, g1_mwrite]
theorem g1_mwriteNumber {σ : mS} {v : Int} {k : Nat} (h : k ∉ ([48, 50] : List Nat)) : (c_mwriteNumber σ v).1 k = σ.1 k := by
  simp only [List.mem_cons, List.not_mem_nil, or_false, not_or] at h
  unfold c_mwriteNumber
  (repeat' split) <;> simp [mfl, mar, upF, h, g1_mwrite, g1_mwriteNumberL]
theorem g2_mwriteNumberL {v : Int} (fu : Nat) (v0 : Int) (σ : mS) {k : Nat} (h : k ∉ ([49, 51] : List Nat)) : (c_mwriteNumberL v fu v0 σ).2 k = σ.2 k := by
  simp only [List.mem_cons, List.not_mem_nil, or_false, not_or] at h
  induction fu generalizing σ v0 with
  | zero => rfl
  | succ fu ih =>
    unfold c_mwriteNumberL
    (repeat' split) <;> simp [mfl, mar, upF, h, ih, g2_mwrite]
theorem g2_mwriteNumber {σ : mS} {v : Int} {k : Nat} (h : k ∉ ([49, 51] : List Nat)) : (c_mwriteNumber σ v).2 k = σ.2 k := by
  simp only [List.mem_cons, List.not_mem_nil, or_false, not_or] at h
  unfold c_mwriteNumber
  (repeat' split) <;> simp [mfl, mar, upF, h, g2_mwrite, g2_mwriteNumberL]
def c_mkeptL (x : Int) : Nat → Int → mS → Int
  | 0, _, σ => 0
  | fu + 1, n, σ => (if n ≤ 0 then n else (if (c_msizeOf σ (((mat (σ.2 28) x) + n) - 1)) = 0 then (c_mkeptL x fu (n + (-1)) σ) else n))
def c_mkept (σ : mS) (x : Int) : Int := (c_mkeptL x (244) ((mat (σ.2 28) (x + 1)) - (mat (σ.2 28) x)) σ)
theorem t_mkeptL {l : Launch} {G : jG} {d : Nat} {σ : mS} {x : Int} {n : Int} (hw : wfm σ) (hd : 1 ≤ d) (hx : 0 ≤ x ∧ x ≤ 121) (fu : Nat) (hn : -121 ≤ n ∧ n ≤ 121) (hn2 : n ≤ (mat (σ.2 28) (x + 1)) - (mat (σ.2 28) x)) (hm : n + 122 < (fu : Int)) : CJ jMod mown l G (Yx mX7_kept) d 0 0 16 [some (.ref 116), some (vi x), some (vi n)] [] σ (det (some (vi (c_mkeptL x fu n σ))) σ) := by
  induction fu generalizing σ n with
  | zero => have k1 := hw.a28 (x + 1); have k2 := hw.a28 x; exact absurd hm (by omega)
  | succ fu ih =>
    have k1 := hw.a28 (x + 1)
    have k2 := hw.a28 x
    refine C_iload_n dX7_kept_16 rfl ?_
    refine C_if_le (tgt := 43) dX7_kept_17 (by decide) (by omega) (fun c_17 => ?_) (fun c_17 => ?_)
    · refine C_iload_n dX7_kept_43 rfl ?_
      refine C_iret dX7_kept_44 rfl ?_
      unfold det; rw [c_mkeptL, if_pos (by omega)]; exact ⟨rfl, rfl⟩
    · refine C_aload_n dX7_kept_20 rfl ?_
      refine C_aload_n dX7_kept_21 rfl ?_
      refine C_get (v := .ref 131) dX7_kept_22 f_X7_57 (fun h hc => ⟨_, hc.1, rfl⟩) ?_
      refine C_iload_n dX7_kept_25 rfl ?_
      refine C_iald (v := vi (mat (σ.2 28) x)) dX7_kept_26 (by omega) (by omega) (fun h hc => hc.rd28 hw (by omega) (by omega)) ?_
      have e_26 := hw.a28 x
      refine C_iload_n dX7_kept_27 rfl ?_
      refine C_iadd dX7_kept_28 ?_
      refine C_iconst dX7_kept_29 ?_
      refine C_isub dX7_kept_30 ?_
      refine D_callV (As := [vi _]) (d' := 0) (t_msizeOf hw (Nat.le_refl _) (by omega)) dX7_kept_31 v_X7_202 (fun h hc => ⟨_, hc.1⟩) rfl (Nat.le_of_ble_eq_true rfl) (by omega) (Nat.le_of_ble_eq_true rfl) ?_
      simp only [Option.toList, List.nil_append, List.cons_append]
      have r_31 := And.intro (r_msizeOf (c := (((mat (σ.2 28) x) + n) - 1)) hw (by omega)) (And.intro (ms_def σ (((mat (σ.2 28) x) + n) - 1)) (And.intro (hw.a30 ((((mat (σ.2 28) x) + n) - 1) + 1)) (hw.a30 (((mat (σ.2 28) x) + n) - 1))))
      refine C_if_ne (tgt := 43) dX7_kept_34 (by decide) (by omega) (fun c_34 => ?_) (fun c_34 => ?_)
      · refine C_iload_n dX7_kept_43 rfl ?_
        refine C_iret dX7_kept_44 rfl ?_
        unfold det; rw [c_mkeptL, if_neg (by omega), if_neg (by omega)]; exact ⟨rfl, rfl⟩
      · refine C_iinc dX7_kept_37 rfl (by decide) rfl ?_
        simp only [List.set_cons_zero, List.set_cons_succ]
        refine C_goto (tgt := 16) dX7_kept_40 (by decide) ?_
        rw [c_mkeptL, if_neg (by omega), if_pos (by omega)]
        refine CJ.mono (ls' := [some (.ref 116), some (vi x), some (vi (n + (-1)))]) (lsub_ok (by repeat (first | exact trivial | refine ⟨rfl, ?_⟩))) (fun _ _ q => q) ?_
        exact ih hw (by omega) (by omega) (by omega)
theorem t_mkept {l : Launch} {G : jG} {d : Nat} {σ : mS} {x : Int} (hw : wfm σ) (hd : 1 ≤ d) (hx : 0 ≤ x ∧ x ≤ 121) : CJ jMod mown l G (Yx mX7_kept) d 0 0 0 [some (.ref 116), some (vi x), none] [] σ (det (some (vi (c_mkept σ x))) σ) := by
  have k1 := hw.a28 (x + 1)
  have k2 := hw.a28 x
  refine C_aload_n dX7_kept_0 rfl ?_
  refine C_get (v := .ref 131) dX7_kept_1 f_X7_57 (fun h hc => ⟨_, hc.1, rfl⟩) ?_
  refine C_iload_n dX7_kept_4 rfl ?_
  refine C_iconst dX7_kept_5 ?_
  refine C_iadd dX7_kept_6 ?_
  refine C_iald (v := vi (mat (σ.2 28) (x + 1))) dX7_kept_7 (by omega) (by omega) (fun h hc => hc.rd28 hw (by omega) (by omega)) ?_
  have e_7 := hw.a28 (x + 1)
  refine C_aload_n dX7_kept_8 rfl ?_
  refine C_get (v := .ref 131) dX7_kept_9 f_X7_57 (fun h hc => ⟨_, hc.1, rfl⟩) ?_
  refine C_iload_n dX7_kept_12 rfl ?_
  refine C_iald (v := vi (mat (σ.2 28) x)) dX7_kept_13 (by omega) (by omega) (fun h hc => hc.rd28 hw (by omega) (by omega)) ?_
  have e_13 := hw.a28 x
  refine C_isub dX7_kept_14 ?_
  refine C_istore_n dX7_kept_15 (by decide) rfl ?_
  simp only [List.set_cons_zero, List.set_cons_succ, jfin0, jfin1, jfin2, jfin3]
  rw [c_mkept]
  refine CJ.mono (ls' := [some (.ref 116), some (vi x), some (vi ((mat (σ.2 28) (x + 1)) - (mat (σ.2 28) x)))]) (lsub_ok (by repeat (first | exact trivial | refine ⟨rfl, ?_⟩))) (fun _ _ q => q) ?_
  exact t_mkeptL hw hd hx (244) (by omega) (by omega) (by omega)
theorem r_mkeptL {σ : mS} {x : Int} {n : Int} (hw : wfm σ) (hx : 0 ≤ x ∧ x ≤ 121) (fu : Nat) (hn : -121 ≤ n ∧ n ≤ 121) (hn2 : n ≤ (mat (σ.2 28) (x + 1)) - (mat (σ.2 28) x)) : -121 ≤ (c_mkeptL x fu n σ) ∧ (c_mkeptL x fu n σ) < max ((mat (σ.2 28) (x + 1)) - (mat (σ.2 28) x)) 0 + 1 := by
  induction fu generalizing σ n with
  | zero => unfold c_mkeptL; omega
  | succ fu ih =>
    have k1 := hw.a28 (x + 1)
    have k2 := hw.a28 x
    unfold c_mkeptL
    split
    · omega
    · split
      · have e_26 := hw.a28 x
        have r_31 := And.intro (r_msizeOf (c := (((mat (σ.2 28) x) + n) - 1)) hw (by omega)) (And.intro (ms_def σ (((mat (σ.2 28) x) + n) - 1)) (And.intro (hw.a30 ((((mat (σ.2 28) x) + n) - 1) + 1)) (hw.a30 (((mat (σ.2 28) x) + n) - 1))))
        exact ih hw (by omega) (by omega)
      · have e_26 := hw.a28 x
        have r_31 := And.intro (r_msizeOf (c := (((mat (σ.2 28) x) + n) - 1)) hw (by omega)) (And.intro (ms_def σ (((mat (σ.2 28) x) + n) - 1)) (And.intro (hw.a30 ((((mat (σ.2 28) x) + n) - 1) + 1)) (hw.a30 (((mat (σ.2 28) x) + n) - 1))))
        omega
theorem r_mkept {σ : mS} {x : Int} (hw : wfm σ) (hx : 0 ≤ x ∧ x ≤ 121) : -121 ≤ (c_mkept σ x) ∧ (c_mkept σ x) < max ((mat (σ.2 28) (x + 1)) - (mat (σ.2 28) x)) 0 + 1 := by
  have k1 := hw.a28 (x + 1)
  have k2 := hw.a28 x
  unfold c_mkept
  have e_7 := hw.a28 (x + 1)
  have e_13 := hw.a28 x
  exact r_mkeptL hw hx (244) (by omega) (by omega)
def c_mwriteLine (σ : mS) (v : Int) (c : Int) (u : Int) (p : Int) : mS := (if p < 0 then (c_mwrite (c_mwriteNumber (c_mwrite (c_mwriteComponent (c_mwrite (c_mwriteTag σ v) 43) c) 43) u) 39) else (c_mwrite (c_mwriteNumber (c_mwrite (c_mwriteNumber (c_mwrite (c_mwriteComponent (c_mwrite (c_mwriteTag σ v) 43) c) 43) u) 43) p) 39))
theorem t_mwriteLine {l : Launch} {G : jG} {d : Nat} {σ : mS} {v : Int} {c : Int} {u : Int} {p : Int} (hw : wfm σ) (hd : 2 ≤ d) (hv : 0 ≤ v ∧ v ≤ 16777215) (hc : -1 ≤ c ∧ c ≤ 122) (hu : 0 ≤ u ∧ u ≤ 99) (hp : -1 ≤ p ∧ p ≤ 99) (hr : mok (c_mwriteLine σ v c u p)) : CJ jMod mown l G (Yx mX7_writeLine) d 0 0 0 [some (.ref 116), some (vi v), some (vi c), some (vi u), some (vi p)] [] σ (det none (c_mwriteLine σ v c u p)) := by
  refine C_aload_n dX7_writeLine_0 rfl ?_
  refine C_iload_n dX7_writeLine_1 rfl ?_
  refine D_callV (As := [vi _]) (d' := 1) (t_mwriteTag hw (Nat.le_refl _) (by omega) (mok_le (by rw [c_mwriteLine]; simp (maxDischargeDepth := 300) only [mle_refl, ↓sl_ite, ↓sl_mwrite, ↓sl_mwriteTag, ↓sl_mwriteComponentL, ↓sl_mwriteComponent, ↓sl_mwriteNumberL, ↓sl_mwriteNumber]) hr)) dX7_writeLine_2 v_X7_281 (fun h hc => ⟨_, hc.1⟩) rfl (Nat.le_of_ble_eq_true rfl) (by omega) (Nat.le_of_ble_eq_true rfl) ?_
  simp only [Option.toList, List.nil_append, List.cons_append]
  have hw1 : wfm (c_mwriteTag σ v) := w_mwriteTag hw (by omega) (mok_le (by rw [c_mwriteLine]; simp (maxDischargeDepth := 300) only [mle_refl, ↓sl_ite, ↓sl_mwrite, ↓sl_mwriteTag, ↓sl_mwriteComponentL, ↓sl_mwriteComponent, ↓sl_mwriteNumberL, ↓sl_mwriteNumber]) hr)
  refine C_aload_n dX7_writeLine_5 rfl ?_
  refine C_bipush dX7_writeLine_6 (by decide) ?_
  refine D_callV (As := [vi _]) (d' := 0) (t_mwrite hw1 (Nat.le_refl _) (by omega) (mok_le (by rw [c_mwriteLine]; simp (maxDischargeDepth := 300) only [mle_refl, ↓sl_ite, ↓sl_mwrite, ↓sl_mwriteTag, ↓sl_mwriteComponentL, ↓sl_mwriteComponent, ↓sl_mwriteNumberL, ↓sl_mwriteNumber]) hr)) dX7_writeLine_8 v_X7_278 (fun h hc => ⟨_, hc.1⟩) rfl (Nat.le_of_ble_eq_true rfl) (by omega) (Nat.le_of_ble_eq_true rfl) ?_
  simp only [Option.toList, List.nil_append, List.cons_append]
  have hw2 : wfm (c_mwrite (c_mwriteTag σ v) 43) := w_mwrite hw1 (by omega) (mok_le (by rw [c_mwriteLine]; simp (maxDischargeDepth := 300) only [mle_refl, ↓sl_ite, ↓sl_mwrite, ↓sl_mwriteTag, ↓sl_mwriteComponentL, ↓sl_mwriteComponent, ↓sl_mwriteNumberL, ↓sl_mwriteNumber]) hr)
  refine C_aload_n dX7_writeLine_11 rfl ?_
  refine C_iload_n dX7_writeLine_12 rfl ?_
  refine D_callV (As := [vi _]) (d' := 1) (t_mwriteComponent hw2 (Nat.le_refl _) (by omega) (mok_le (by rw [c_mwriteLine]; simp (maxDischargeDepth := 300) only [mle_refl, ↓sl_ite, ↓sl_mwrite, ↓sl_mwriteTag, ↓sl_mwriteComponentL, ↓sl_mwriteComponent, ↓sl_mwriteNumberL, ↓sl_mwriteNumber]) hr)) dX7_writeLine_13 v_X7_287 (fun h hc => ⟨_, hc.1⟩) rfl (Nat.le_of_ble_eq_true rfl) (by omega) (Nat.le_of_ble_eq_true rfl) ?_
  simp only [Option.toList, List.nil_append, List.cons_append]
  have hw3 : wfm (c_mwriteComponent (c_mwrite (c_mwriteTag σ v) 43) c) := w_mwriteComponent hw2 (by omega) (mok_le (by rw [c_mwriteLine]; simp (maxDischargeDepth := 300) only [mle_refl, ↓sl_ite, ↓sl_mwrite, ↓sl_mwriteTag, ↓sl_mwriteComponentL, ↓sl_mwriteComponent, ↓sl_mwriteNumberL, ↓sl_mwriteNumber]) hr)
  refine C_aload_n dX7_writeLine_16 rfl ?_
  refine C_bipush dX7_writeLine_17 (by decide) ?_
  refine D_callV (As := [vi _]) (d' := 0) (t_mwrite hw3 (Nat.le_refl _) (by omega) (mok_le (by rw [c_mwriteLine]; simp (maxDischargeDepth := 300) only [mle_refl, ↓sl_ite, ↓sl_mwrite, ↓sl_mwriteTag, ↓sl_mwriteComponentL, ↓sl_mwriteComponent, ↓sl_mwriteNumberL, ↓sl_mwriteNumber]) hr)) dX7_writeLine_19 v_X7_278 (fun h hc => ⟨_, hc.1⟩) rfl (Nat.le_of_ble_eq_true rfl) (by omega) (Nat.le_of_ble_eq_true rfl) ?_
  simp only [Option.toList, List.nil_append, List.cons_append]
  have hw4 : wfm (c_mwrite (c_mwriteComponent (c_mwrite (c_mwriteTag σ v) 43) c) 43) := w_mwrite hw3 (by omega) (mok_le (by rw [c_mwriteLine]; simp (maxDischargeDepth := 300) only [mle_refl, ↓sl_ite, ↓sl_mwrite, ↓sl_mwriteTag, ↓sl_mwriteComponentL, ↓sl_mwriteComponent, ↓sl_mwriteNumberL, ↓sl_mwriteNumber]) hr)
  refine C_aload_n dX7_writeLine_22 rfl ?_
  refine C_iload_n dX7_writeLine_23 rfl ?_
  refine D_callV (As := [vi _]) (d' := 1) (t_mwriteNumber hw4 (Nat.le_refl _) (by omega) (mok_le (by rw [c_mwriteLine]; simp (maxDischargeDepth := 300) only [mle_refl, ↓sl_ite, ↓sl_mwrite, ↓sl_mwriteTag, ↓sl_mwriteComponentL, ↓sl_mwriteComponent, ↓sl_mwriteNumberL, ↓sl_mwriteNumber]) hr)) dX7_writeLine_24 v_X7_290 (fun h hc => ⟨_, hc.1⟩) rfl (Nat.le_of_ble_eq_true rfl) (by omega) (Nat.le_of_ble_eq_true rfl) ?_
  simp only [Option.toList, List.nil_append, List.cons_append]
  have hw5 : wfm (c_mwriteNumber (c_mwrite (c_mwriteComponent (c_mwrite (c_mwriteTag σ v) 43) c) 43) u) := w_mwriteNumber hw4 (by omega) (mok_le (by rw [c_mwriteLine]; simp (maxDischargeDepth := 300) only [mle_refl, ↓sl_ite, ↓sl_mwrite, ↓sl_mwriteTag, ↓sl_mwriteComponentL, ↓sl_mwriteComponent, ↓sl_mwriteNumberL, ↓sl_mwriteNumber]) hr)
  refine C_iload dX7_writeLine_27 rfl ?_
  refine C_if_lt (tgt := 44) dX7_writeLine_29 (by decide) (by omega) (fun c_29 => ?_) (fun c_29 => ?_)
  · refine C_aload_n dX7_writeLine_44 rfl ?_
    refine C_bipush dX7_writeLine_45 (by decide) ?_
    refine D_callV (As := [vi _]) (d' := 0) (t_mwrite hw5 (Nat.le_refl _) (by omega) (mok_le (by rw [c_mwriteLine, if_pos (by omega)]; simp (maxDischargeDepth := 300) only [mle_refl, ↓sl_ite, ↓sl_mwrite, ↓sl_mwriteTag, ↓sl_mwriteComponentL, ↓sl_mwriteComponent, ↓sl_mwriteNumberL, ↓sl_mwriteNumber]) hr)) dX7_writeLine_47 v_X7_278 (fun h hc => ⟨_, hc.1⟩) rfl (Nat.le_of_ble_eq_true rfl) (by omega) (Nat.le_of_ble_eq_true rfl) ?_
    simp only [Option.toList, List.nil_append, List.cons_append]
    have hw7 : wfm (c_mwrite (c_mwriteNumber (c_mwrite (c_mwriteComponent (c_mwrite (c_mwriteTag σ v) 43) c) 43) u) 39) := w_mwrite hw5 (by omega) (mok_le (by rw [c_mwriteLine, if_pos (by omega)]; simp (maxDischargeDepth := 300) only [mle_refl, ↓sl_ite, ↓sl_mwrite, ↓sl_mwriteTag, ↓sl_mwriteComponentL, ↓sl_mwriteComponent, ↓sl_mwriteNumberL, ↓sl_mwriteNumber]) hr)
    refine C_vret dX7_writeLine_50 rfl ⟨rfl, ?_⟩
    rw [c_mwriteLine, if_pos (by omega)]
  · refine C_aload_n dX7_writeLine_32 rfl ?_
    refine C_bipush dX7_writeLine_33 (by decide) ?_
    refine D_callV (As := [vi _]) (d' := 0) (t_mwrite hw5 (Nat.le_refl _) (by omega) (mok_le (by rw [c_mwriteLine, if_neg (by omega)]; simp (maxDischargeDepth := 300) only [mle_refl, ↓sl_ite, ↓sl_mwrite, ↓sl_mwriteTag, ↓sl_mwriteComponentL, ↓sl_mwriteComponent, ↓sl_mwriteNumberL, ↓sl_mwriteNumber]) hr)) dX7_writeLine_35 v_X7_278 (fun h hc => ⟨_, hc.1⟩) rfl (Nat.le_of_ble_eq_true rfl) (by omega) (Nat.le_of_ble_eq_true rfl) ?_
    simp only [Option.toList, List.nil_append, List.cons_append]
    have hw8 : wfm (c_mwrite (c_mwriteNumber (c_mwrite (c_mwriteComponent (c_mwrite (c_mwriteTag σ v) 43) c) 43) u) 43) := w_mwrite hw5 (by omega) (mok_le (by rw [c_mwriteLine, if_neg (by omega)]; simp (maxDischargeDepth := 300) only [mle_refl, ↓sl_ite, ↓sl_mwrite, ↓sl_mwriteTag, ↓sl_mwriteComponentL, ↓sl_mwriteComponent, ↓sl_mwriteNumberL, ↓sl_mwriteNumber]) hr)
    refine C_aload_n dX7_writeLine_38 rfl ?_
    refine C_iload dX7_writeLine_39 rfl ?_
    refine D_callV (As := [vi _]) (d' := 1) (t_mwriteNumber hw8 (Nat.le_refl _) (by omega) (mok_le (by rw [c_mwriteLine, if_neg (by omega)]; simp (maxDischargeDepth := 300) only [mle_refl, ↓sl_ite, ↓sl_mwrite, ↓sl_mwriteTag, ↓sl_mwriteComponentL, ↓sl_mwriteComponent, ↓sl_mwriteNumberL, ↓sl_mwriteNumber]) hr)) dX7_writeLine_41 v_X7_290 (fun h hc => ⟨_, hc.1⟩) rfl (Nat.le_of_ble_eq_true rfl) (by omega) (Nat.le_of_ble_eq_true rfl) ?_
    simp only [Option.toList, List.nil_append, List.cons_append]
    have hw9 : wfm (c_mwriteNumber (c_mwrite (c_mwriteNumber (c_mwrite (c_mwriteComponent (c_mwrite (c_mwriteTag σ v) 43) c) 43) u) 43) p) := w_mwriteNumber hw8 (by omega) (mok_le (by rw [c_mwriteLine, if_neg (by omega)]; simp (maxDischargeDepth := 300) only [mle_refl, ↓sl_ite, ↓sl_mwrite, ↓sl_mwriteTag, ↓sl_mwriteComponentL, ↓sl_mwriteComponent, ↓sl_mwriteNumberL, ↓sl_mwriteNumber]) hr)
    refine C_aload_n dX7_writeLine_44 rfl ?_
    refine C_bipush dX7_writeLine_45 (by decide) ?_
    refine D_callV (As := [vi _]) (d' := 0) (t_mwrite hw9 (Nat.le_refl _) (by omega) (mok_le (by rw [c_mwriteLine, if_neg (by omega)]; simp (maxDischargeDepth := 300) only [mle_refl, ↓sl_ite, ↓sl_mwrite, ↓sl_mwriteTag, ↓sl_mwriteComponentL, ↓sl_mwriteComponent, ↓sl_mwriteNumberL, ↓sl_mwriteNumber]) hr)) dX7_writeLine_47 v_X7_278 (fun h hc => ⟨_, hc.1⟩) rfl (Nat.le_of_ble_eq_true rfl) (by omega) (Nat.le_of_ble_eq_true rfl) ?_
    simp only [Option.toList, List.nil_append, List.cons_append]
    have hw10 : wfm (c_mwrite (c_mwriteNumber (c_mwrite (c_mwriteNumber (c_mwrite (c_mwriteComponent (c_mwrite (c_mwriteTag σ v) 43) c) 43) u) 43) p) 39) := w_mwrite hw9 (by omega) (mok_le (by rw [c_mwriteLine, if_neg (by omega)]; simp (maxDischargeDepth := 300) only [mle_refl, ↓sl_ite, ↓sl_mwrite, ↓sl_mwriteTag, ↓sl_mwriteComponentL, ↓sl_mwriteComponent, ↓sl_mwriteNumberL, ↓sl_mwriteNumber]) hr)
    refine C_vret dX7_writeLine_50 rfl ⟨rfl, ?_⟩
    rw [c_mwriteLine, if_neg (by omega)]
theorem w_mwriteLine {σ : mS} {v : Int} {c : Int} {u : Int} {p : Int} (hw : wfm σ) (hv : 0 ≤ v ∧ v ≤ 16777215) (hc : -1 ≤ c ∧ c ≤ 122) (hu : 0 ≤ u ∧ u ≤ 99) (hp : -1 ≤ p ∧ p ≤ 99) (hr : mok (c_mwriteLine σ v c u p)) : wfm (c_mwriteLine σ v c u p) := by
  unfold c_mwriteLine
  split
  · have hw1 : wfm (c_mwriteTag σ v) := w_mwriteTag hw (by omega) (mok_le (by rw [c_mwriteLine]; simp (maxDischargeDepth := 300) only [mle_refl, ↓sl_ite, ↓sl_mwrite, ↓sl_mwriteTag, ↓sl_mwriteComponentL, ↓sl_mwriteComponent, ↓sl_mwriteNumberL, ↓sl_mwriteNumber]) hr)
    have hw2 : wfm (c_mwrite (c_mwriteTag σ v) 43) := w_mwrite hw1 (by omega) (mok_le (by rw [c_mwriteLine]; simp (maxDischargeDepth := 300) only [mle_refl, ↓sl_ite, ↓sl_mwrite, ↓sl_mwriteTag, ↓sl_mwriteComponentL, ↓sl_mwriteComponent, ↓sl_mwriteNumberL, ↓sl_mwriteNumber]) hr)
    have hw3 : wfm (c_mwriteComponent (c_mwrite (c_mwriteTag σ v) 43) c) := w_mwriteComponent hw2 (by omega) (mok_le (by rw [c_mwriteLine]; simp (maxDischargeDepth := 300) only [mle_refl, ↓sl_ite, ↓sl_mwrite, ↓sl_mwriteTag, ↓sl_mwriteComponentL, ↓sl_mwriteComponent, ↓sl_mwriteNumberL, ↓sl_mwriteNumber]) hr)
    have hw4 : wfm (c_mwrite (c_mwriteComponent (c_mwrite (c_mwriteTag σ v) 43) c) 43) := w_mwrite hw3 (by omega) (mok_le (by rw [c_mwriteLine]; simp (maxDischargeDepth := 300) only [mle_refl, ↓sl_ite, ↓sl_mwrite, ↓sl_mwriteTag, ↓sl_mwriteComponentL, ↓sl_mwriteComponent, ↓sl_mwriteNumberL, ↓sl_mwriteNumber]) hr)
    have hw5 : wfm (c_mwriteNumber (c_mwrite (c_mwriteComponent (c_mwrite (c_mwriteTag σ v) 43) c) 43) u) := w_mwriteNumber hw4 (by omega) (mok_le (by rw [c_mwriteLine]; simp (maxDischargeDepth := 300) only [mle_refl, ↓sl_ite, ↓sl_mwrite, ↓sl_mwriteTag, ↓sl_mwriteComponentL, ↓sl_mwriteComponent, ↓sl_mwriteNumberL, ↓sl_mwriteNumber]) hr)
    have hw7 : wfm (c_mwrite (c_mwriteNumber (c_mwrite (c_mwriteComponent (c_mwrite (c_mwriteTag σ v) 43) c) 43) u) 39) := w_mwrite hw5 (by omega) (mok_le (by rw [c_mwriteLine, if_pos (by omega)]; simp (maxDischargeDepth := 300) only [mle_refl, ↓sl_ite, ↓sl_mwrite, ↓sl_mwriteTag, ↓sl_mwriteComponentL, ↓sl_mwriteComponent, ↓sl_mwriteNumberL, ↓sl_mwriteNumber]) hr)
    exact hw7
  · have hw1 : wfm (c_mwriteTag σ v) := w_mwriteTag hw (by omega) (mok_le (by rw [c_mwriteLine]; simp (maxDischargeDepth := 300) only [mle_refl, ↓sl_ite, ↓sl_mwrite, ↓sl_mwriteTag, ↓sl_mwriteComponentL, ↓sl_mwriteComponent, ↓sl_mwriteNumberL, ↓sl_mwriteNumber]) hr)
    have hw2 : wfm (c_mwrite (c_mwriteTag σ v) 43) := w_mwrite hw1 (by omega) (mok_le (by rw [c_mwriteLine]; simp (maxDischargeDepth := 300) only [mle_refl, ↓sl_ite, ↓sl_mwrite, ↓sl_mwriteTag, ↓sl_mwriteComponentL, ↓sl_mwriteComponent, ↓sl_mwriteNumberL, ↓sl_mwriteNumber]) hr)
    have hw3 : wfm (c_mwriteComponent (c_mwrite (c_mwriteTag σ v) 43) c) := w_mwriteComponent hw2 (by omega) (mok_le (by rw [c_mwriteLine]; simp (maxDischargeDepth := 300) only [mle_refl, ↓sl_ite, ↓sl_mwrite, ↓sl_mwriteTag, ↓sl_mwriteComponentL, ↓sl_mwriteComponent, ↓sl_mwriteNumberL, ↓sl_mwriteNumber]) hr)
    have hw4 : wfm (c_mwrite (c_mwriteComponent (c_mwrite (c_mwriteTag σ v) 43) c) 43) := w_mwrite hw3 (by omega) (mok_le (by rw [c_mwriteLine]; simp (maxDischargeDepth := 300) only [mle_refl, ↓sl_ite, ↓sl_mwrite, ↓sl_mwriteTag, ↓sl_mwriteComponentL, ↓sl_mwriteComponent, ↓sl_mwriteNumberL, ↓sl_mwriteNumber]) hr)
    have hw5 : wfm (c_mwriteNumber (c_mwrite (c_mwriteComponent (c_mwrite (c_mwriteTag σ v) 43) c) 43) u) := w_mwriteNumber hw4 (by omega) (mok_le (by rw [c_mwriteLine]; simp (maxDischargeDepth := 300) only [mle_refl, ↓sl_ite, ↓sl_mwrite, ↓sl_mwriteTag, ↓sl_mwriteComponentL, ↓sl_mwriteComponent, ↓sl_mwriteNumberL, ↓sl_mwriteNumber]) hr)
    have hw8 : wfm (c_mwrite (c_mwriteNumber (c_mwrite (c_mwriteComponent (c_mwrite (c_mwriteTag σ v) 43) c) 43) u) 43) := w_mwrite hw5 (by omega) (mok_le (by rw [c_mwriteLine, if_neg (by omega)]; simp (maxDischargeDepth := 300) only [mle_refl, ↓sl_ite, ↓sl_mwrite, ↓sl_mwriteTag, ↓sl_mwriteComponentL, ↓sl_mwriteComponent, ↓sl_mwriteNumberL, ↓sl_mwriteNumber]) hr)
    have hw9 : wfm (c_mwriteNumber (c_mwrite (c_mwriteNumber (c_mwrite (c_mwriteComponent (c_mwrite (c_mwriteTag σ v) 43) c) 43) u) 43) p) := w_mwriteNumber hw8 (by omega) (mok_le (by rw [c_mwriteLine, if_neg (by omega)]; simp (maxDischargeDepth := 300) only [mle_refl, ↓sl_ite, ↓sl_mwrite, ↓sl_mwriteTag, ↓sl_mwriteComponentL, ↓sl_mwriteComponent, ↓sl_mwriteNumberL, ↓sl_mwriteNumber]) hr)
    have hw10 : wfm (c_mwrite (c_mwriteNumber (c_mwrite (c_mwriteNumber (c_mwrite (c_mwriteComponent (c_mwrite (c_mwriteTag σ v) 43) c) 43) u) 43) p) 39) := w_mwrite hw9 (by omega) (mok_le (by rw [c_mwriteLine, if_neg (by omega)]; simp (maxDischargeDepth := 300) only [mle_refl, ↓sl_ite, ↓sl_mwrite, ↓sl_mwriteTag, ↓sl_mwriteComponentL, ↓sl_mwriteComponent, ↓sl_mwriteNumberL, ↓sl_mwriteNumber]) hr)
    exact hw10
theorem g1_mwriteLine {σ : mS} {v : Int} {c : Int} {u : Int} {p : Int} {k : Nat} (h : k ∉ ([48, 50] : List Nat)) : (c_mwriteLine σ v c u p).1 k = σ.1 k := by
  simp only [List.mem_cons, List.not_mem_nil, or_false, not_or] at h
  unfold c_mwriteLine
  (repeat' split) <;> simp [mfl, mar, upF, h, g1_mwrite, g1_mwriteTag, g1_mwriteComponent, g1_mwriteNumber]
theorem g2_mwriteLine {σ : mS} {v : Int} {c : Int} {u : Int} {p : Int} {k : Nat} (h : k ∉ ([49, 51] : List Nat)) : (c_mwriteLine σ v c u p).2 k = σ.2 k := by
  simp only [List.mem_cons, List.not_mem_nil, or_false, not_or] at h
  unfold c_mwriteLine
  (repeat' split) <;> simp [mfl, mar, upF, h, g2_mwrite, g2_mwriteTag, g2_mwriteComponent, g2_mwriteNumber]
theorem ml_mwriteLine {σ : mS} {v : Int} {c : Int} {u : Int} {p : Int} : mle σ (c_mwriteLine σ v c u p) := by
  unfold c_mwriteLine
  simp (maxDischargeDepth := 300) only [mle_refl, ↓sl_ite, ↓sl_mwrite, ↓sl_mwriteTag, ↓sl_mwriteComponentL, ↓sl_mwriteComponent, ↓sl_mwriteNumberL, ↓sl_mwriteNumber]
theorem sl_mwriteLine {v : Int} {c : Int} {u : Int} {p : Int} {ρ τ : mS} (h : mle ρ τ) : mle ρ (c_mwriteLine τ v c u p) := mle_trans h ml_mwriteLine
def c_mwriteReportL  : Nat → Int → Int → mS → mS
  | 0, _, _, σ => σ
  | fu + 1, g, i, σ => (if (σ.1 33) ≤ i then σ else (if (mat (σ.2 36) i) ≤ g then (if (mat (σ.2 37) i) ≤ 0 then (c_mwriteReportL  fu g (i + 1) (c_mwriteLine σ 5587789 (c_mcomponent σ (mat (σ.2 34) i) 0) (mat (σ.2 37) i) (-1))) else (c_mwriteReportL  fu g (i + 1) (c_mwriteLine σ 5587789 (c_mcomponent σ (mat (σ.2 34) i) 0) (mat (σ.2 37) i) (mat (σ.2 38) i)))) else (if (mat (σ.2 37) i) ≤ 0 then (c_mwriteReportL  fu (mat (σ.2 36) i) (i + 1) (c_mwriteLine (c_mwriteLine σ 5587782 (c_mcomponent σ (mat (σ.2 40) (mat (σ.2 36) i)) 0) (mat (σ.2 42) (mat (σ.2 36) i)) (-1)) 5587789 (c_mcomponent (c_mwriteLine σ 5587782 (c_mcomponent σ (mat (σ.2 40) (mat (σ.2 36) i)) 0) (mat (σ.2 42) (mat (σ.2 36) i)) (-1)) (mat (σ.2 34) i) 0) (mat (σ.2 37) i) (-1))) else (c_mwriteReportL  fu (mat (σ.2 36) i) (i + 1) (c_mwriteLine (c_mwriteLine σ 5587782 (c_mcomponent σ (mat (σ.2 40) (mat (σ.2 36) i)) 0) (mat (σ.2 42) (mat (σ.2 36) i)) (-1)) 5587789 (c_mcomponent (c_mwriteLine σ 5587782 (c_mcomponent σ (mat (σ.2 40) (mat (σ.2 36) i)) 0) (mat (σ.2 42) (mat (σ.2 36) i)) (-1)) (mat (σ.2 34) i) 0) (mat (σ.2 37) i) (mat (σ.2 38) i))))))
def c_mwriteReport (σ : mS)  : mS := (c_mwriteReportL  (21) (-1) 0 (c_mwriteLine (mfl (mfl σ 52 1) 50 0) 5587785 (c_mcomponent (mfl (mfl σ 52 1) 50 0) 0 2) (σ.1 32) (-1)))
theorem ml_mwriteReportL  {fu : Nat} {v0 v1 : Int} {σ : mS} : mle σ (c_mwriteReportL  fu v0 v1 σ) := by
  induction fu generalizing σ v0 v1 with
  | zero => exact mle_refl _
  | succ fu ih =>
    have ih2 : ∀ (ρ τ : mS) (v0 v1 : Int), mle ρ τ → mle ρ (c_mwriteReportL  fu v0 v1 τ) := fun ρ τ _ _ h => mle_trans h ih
    unfold c_mwriteReportL
    simp (maxDischargeDepth := 300) only [mle_refl, ↓sl_ite, ↓ih2, ↓sl_mwrite, ↓sl_mwriteTag, ↓sl_mwriteComponentL, ↓sl_mwriteComponent, ↓sl_mwriteNumberL, ↓sl_mwriteNumber, ↓sl_mwriteLine]
theorem sl_mwriteReportL {v0 : Int} {v1 : Int} {fu : Nat} {ρ τ : mS} (h : mle ρ τ) : mle ρ (c_mwriteReportL  fu v0 v1 τ) := mle_trans h ml_mwriteReportL
theorem t_mwriteReportL {l : Launch} {G : jG} {d : Nat} {σ : mS}  {g i : Int} (hw : wfm σ) (hd : 3 ≤ d)  (fu : Nat) (hg : -1 ≤ g ∧ g ≤ 19) (hi : 0 ≤ i ∧ i ≤ 20) (hr : mok (c_mwriteReportL fu g i σ)) (hm : 20 - i < (fu : Int)) : CJ jMod mown l G (Yx mX7_writeReport) d 0 0 32 [some (.ref 116), some (vi g), some (vi i)] [] σ (det none (c_mwriteReportL  fu g i σ)) := by
  induction fu generalizing σ g i with
  | zero => exact absurd hm (by omega)
  | succ fu ih =>
    refine C_iload_n dX7_writeReport_32 rfl ?_
    refine C_aload_n dX7_writeReport_33 rfl ?_
    refine C_get (v := vi (σ.1 33)) dX7_writeReport_34 f_X7_196 (fun h hc => ⟨_, hc.1, rfl⟩) ?_
    have g_34 := hw.f33
    refine C_icmp_ge (tgt := 131) dX7_writeReport_37 (by decide) (by omega) (by omega) (fun c_37 => ?_) (fun c_37 => ?_)
    · refine C_vret dX7_writeReport_131 rfl ⟨rfl, ?_⟩
      rw [c_mwriteReportL, if_pos (by omega)]
    · refine C_aload_n dX7_writeReport_40 rfl ?_
      refine C_get (v := .ref 136) dX7_writeReport_41 f_X7_72 (fun h hc => ⟨_, hc.1, rfl⟩) ?_
      refine C_iload_n dX7_writeReport_44 rfl ?_
      refine C_iald (v := vi (mat (σ.2 36) i)) dX7_writeReport_45 (by omega) (by omega) (fun h hc => hc.rd36 hw (by omega) (by omega)) ?_
      have e_45 := hw.a36 i
      refine C_iload_n dX7_writeReport_46 rfl ?_
      refine C_icmp_le (tgt := 82) dX7_writeReport_47 (by decide) (by omega) (by omega) (fun c_47 => ?_) (fun c_47 => ?_)
      · refine C_aload_n dX7_writeReport_82 rfl ?_
        refine C_ldcw (5587789) dX7_writeReport_83 k_X7_299 ?_
        refine C_aload_n dX7_writeReport_86 rfl ?_
        refine C_aload_n dX7_writeReport_87 rfl ?_
        refine C_get (v := .ref 134) dX7_writeReport_88 f_X7_66 (fun h hc => ⟨_, hc.1, rfl⟩) ?_
        refine C_iload_n dX7_writeReport_91 rfl ?_
        refine C_iald (v := vi (mat (σ.2 34) i)) dX7_writeReport_92 (by omega) (by omega) (fun h hc => hc.rd34 hw (by omega) (by omega)) ?_
        have e_92 := hw.a34 i
        refine C_iconst dX7_writeReport_93 ?_
        refine D_callV (As := [vi _, vi _]) (d' := 0) (t_mcomponent hw (Nat.le_refl _) (by omega) (by omega)) dX7_writeReport_94 v_X7_205 (fun h hc => ⟨_, hc.1⟩) rfl (Nat.le_of_ble_eq_true rfl) (by omega) (Nat.le_of_ble_eq_true rfl) ?_
        simp only [Option.toList, List.nil_append, List.cons_append]
        have r_94 := r_mcomponent (s := (mat (σ.2 34) i)) (e := 0) hw (by omega) (by omega)
        refine C_aload_n dX7_writeReport_97 rfl ?_
        refine C_get (v := .ref 137) dX7_writeReport_98 f_X7_75 (fun h hc => ⟨_, hc.1, rfl⟩) ?_
        refine C_iload_n dX7_writeReport_101 rfl ?_
        refine C_iald (v := vi (mat (σ.2 37) i)) dX7_writeReport_102 (by omega) (by omega) (fun h hc => hc.rd37 hw (by omega) (by omega)) ?_
        have e_102 := hw.a37 i
        refine C_aload_n dX7_writeReport_103 rfl ?_
        refine C_get (v := .ref 137) dX7_writeReport_104 f_X7_75 (fun h hc => ⟨_, hc.1, rfl⟩) ?_
        refine C_iload_n dX7_writeReport_107 rfl ?_
        refine C_iald (v := vi (mat (σ.2 37) i)) dX7_writeReport_108 (by omega) (by omega) (fun h hc => hc.rd37 hw (by omega) (by omega)) ?_
        have e_108 := hw.a37 i
        refine C_if_le (tgt := 121) dX7_writeReport_109 (by decide) (by omega) (fun c_109 => ?_) (fun c_109 => ?_)
        · refine C_iconst dX7_writeReport_121 ?_
          refine D_callV (As := [vi _, vi _, vi _, vi _]) (d' := 2) (t_mwriteLine hw (Nat.le_refl _) (by omega) (by omega) (by omega) (by omega) (mok_le (by rw [c_mwriteReportL, if_neg (by omega), if_pos (by omega), if_pos (by omega)]; simp (maxDischargeDepth := 300) only [mle_refl, ↓sl_ite, ↓sl_mwrite, ↓sl_mwriteTag, ↓sl_mwriteComponentL, ↓sl_mwriteComponent, ↓sl_mwriteNumberL, ↓sl_mwriteNumber, ↓sl_mwriteLine, ↓sl_mwriteReportL]) hr)) dX7_writeReport_122 v_X7_294 (fun h hc => ⟨_, hc.1⟩) rfl (Nat.le_of_ble_eq_true rfl) (by omega) (Nat.le_of_ble_eq_true rfl) ?_
          simp only [Option.toList, List.nil_append, List.cons_append]
          have hw4 : wfm (c_mwriteLine σ 5587789 (c_mcomponent σ (mat (σ.2 34) i) 0) (mat (σ.2 37) i) (-1)) := w_mwriteLine hw (by omega) (by omega) (by omega) (by omega) (mok_le (by rw [c_mwriteReportL, if_neg (by omega), if_pos (by omega), if_pos (by omega)]; simp (maxDischargeDepth := 300) only [mle_refl, ↓sl_ite, ↓sl_mwrite, ↓sl_mwriteTag, ↓sl_mwriteComponentL, ↓sl_mwriteComponent, ↓sl_mwriteNumberL, ↓sl_mwriteNumber, ↓sl_mwriteLine, ↓sl_mwriteReportL]) hr)
          refine C_iinc dX7_writeReport_125 rfl (by decide) rfl ?_
          simp only [List.set_cons_zero, List.set_cons_succ]
          refine C_goto (tgt := 32) dX7_writeReport_128 (by decide) ?_
          rw [c_mwriteReportL, if_neg (by omega), if_pos (by omega), if_pos (by omega)]
          refine CJ.mono (ls' := [some (.ref 116), some (vi g), some (vi (i + 1))]) (lsub_ok (by repeat (first | exact trivial | refine ⟨rfl, ?_⟩))) (fun _ _ q => q) ?_
          exact ih hw4 (by omega) (by omega) (by rw [c_mwriteReportL, if_neg (by omega), if_pos (by omega), if_pos (by omega)] at hr; exact hr) (by omega)
        · refine C_aload_n dX7_writeReport_112 rfl ?_
          refine C_get (v := .ref 138) dX7_writeReport_113 f_X7_78 (fun h hc => ⟨_, hc.1, rfl⟩) ?_
          refine C_iload_n dX7_writeReport_116 rfl ?_
          refine C_iald (v := vi (mat (σ.2 38) i)) dX7_writeReport_117 (by omega) (by omega) (fun h hc => hc.rd38 hw (by omega) (by omega)) ?_
          have e_117 := hw.a38 i
          refine C_goto (tgt := 122) dX7_writeReport_118 (by decide) ?_
          refine D_callV (As := [vi _, vi _, vi _, vi _]) (d' := 2) (t_mwriteLine hw (Nat.le_refl _) (by omega) (by omega) (by omega) (by omega) (mok_le (by rw [c_mwriteReportL, if_neg (by omega), if_pos (by omega), if_neg (by omega)]; simp (maxDischargeDepth := 300) only [mle_refl, ↓sl_ite, ↓sl_mwrite, ↓sl_mwriteTag, ↓sl_mwriteComponentL, ↓sl_mwriteComponent, ↓sl_mwriteNumberL, ↓sl_mwriteNumber, ↓sl_mwriteLine, ↓sl_mwriteReportL]) hr)) dX7_writeReport_122 v_X7_294 (fun h hc => ⟨_, hc.1⟩) rfl (Nat.le_of_ble_eq_true rfl) (by omega) (Nat.le_of_ble_eq_true rfl) ?_
          simp only [Option.toList, List.nil_append, List.cons_append]
          have hw5 : wfm (c_mwriteLine σ 5587789 (c_mcomponent σ (mat (σ.2 34) i) 0) (mat (σ.2 37) i) (mat (σ.2 38) i)) := w_mwriteLine hw (by omega) (by omega) (by omega) (by omega) (mok_le (by rw [c_mwriteReportL, if_neg (by omega), if_pos (by omega), if_neg (by omega)]; simp (maxDischargeDepth := 300) only [mle_refl, ↓sl_ite, ↓sl_mwrite, ↓sl_mwriteTag, ↓sl_mwriteComponentL, ↓sl_mwriteComponent, ↓sl_mwriteNumberL, ↓sl_mwriteNumber, ↓sl_mwriteLine, ↓sl_mwriteReportL]) hr)
          refine C_iinc dX7_writeReport_125 rfl (by decide) rfl ?_
          simp only [List.set_cons_zero, List.set_cons_succ]
          refine C_goto (tgt := 32) dX7_writeReport_128 (by decide) ?_
          rw [c_mwriteReportL, if_neg (by omega), if_pos (by omega), if_neg (by omega)]
          refine CJ.mono (ls' := [some (.ref 116), some (vi g), some (vi (i + 1))]) (lsub_ok (by repeat (first | exact trivial | refine ⟨rfl, ?_⟩))) (fun _ _ q => q) ?_
          exact ih hw5 (by omega) (by omega) (by rw [c_mwriteReportL, if_neg (by omega), if_pos (by omega), if_neg (by omega)] at hr; exact hr) (by omega)
      · refine C_aload_n dX7_writeReport_50 rfl ?_
        refine C_get (v := .ref 136) dX7_writeReport_51 f_X7_72 (fun h hc => ⟨_, hc.1, rfl⟩) ?_
        refine C_iload_n dX7_writeReport_54 rfl ?_
        refine C_iald (v := vi (mat (σ.2 36) i)) dX7_writeReport_55 (by omega) (by omega) (fun h hc => hc.rd36 hw (by omega) (by omega)) ?_
        have e_55 := hw.a36 i
        refine C_istore_n dX7_writeReport_56 (by decide) rfl ?_
        simp only [List.set_cons_zero, List.set_cons_succ, jfin0, jfin1, jfin2, jfin3]
        refine C_aload_n dX7_writeReport_57 rfl ?_
        refine C_ldcw (5587782) dX7_writeReport_58 k_X7_298 ?_
        refine C_aload_n dX7_writeReport_61 rfl ?_
        refine C_aload_n dX7_writeReport_62 rfl ?_
        refine C_get (v := .ref 139) dX7_writeReport_63 f_X7_81 (fun h hc => ⟨_, hc.1, rfl⟩) ?_
        refine C_iload_n dX7_writeReport_66 rfl ?_
        refine C_iald (v := vi (mat (σ.2 40) (mat (σ.2 36) i))) dX7_writeReport_67 (by omega) (by omega) (fun h hc => hc.rd40 hw (by omega) (by omega)) ?_
        have e_67 := hw.a40 (mat (σ.2 36) i)
        refine C_iconst dX7_writeReport_68 ?_
        refine D_callV (As := [vi _, vi _]) (d' := 0) (t_mcomponent hw (Nat.le_refl _) (by omega) (by omega)) dX7_writeReport_69 v_X7_205 (fun h hc => ⟨_, hc.1⟩) rfl (Nat.le_of_ble_eq_true rfl) (by omega) (Nat.le_of_ble_eq_true rfl) ?_
        simp only [Option.toList, List.nil_append, List.cons_append]
        have r_69 := r_mcomponent (s := (mat (σ.2 40) (mat (σ.2 36) i))) (e := 0) hw (by omega) (by omega)
        refine C_aload_n dX7_writeReport_72 rfl ?_
        refine C_get (v := .ref 141) dX7_writeReport_73 f_X7_87 (fun h hc => ⟨_, hc.1, rfl⟩) ?_
        refine C_iload_n dX7_writeReport_76 rfl ?_
        refine C_iald (v := vi (mat (σ.2 42) (mat (σ.2 36) i))) dX7_writeReport_77 (by omega) (by omega) (fun h hc => hc.rd42 hw (by omega) (by omega)) ?_
        have e_77 := hw.a42 (mat (σ.2 36) i)
        refine C_iconst dX7_writeReport_78 ?_
        refine D_callV (As := [vi _, vi _, vi _, vi _]) (d' := 2) (t_mwriteLine hw (Nat.le_refl _) (by omega) (by omega) (by omega) (by omega) (mok_le (by rw [c_mwriteReportL, if_neg (by omega), if_neg (by omega)]; simp (maxDischargeDepth := 300) only [mle_refl, ↓sl_ite, ↓sl_mwrite, ↓sl_mwriteTag, ↓sl_mwriteComponentL, ↓sl_mwriteComponent, ↓sl_mwriteNumberL, ↓sl_mwriteNumber, ↓sl_mwriteLine, ↓sl_mwriteReportL]) hr)) dX7_writeReport_79 v_X7_294 (fun h hc => ⟨_, hc.1⟩) rfl (Nat.le_of_ble_eq_true rfl) (by omega) (Nat.le_of_ble_eq_true rfl) ?_
        simp only [Option.toList, List.nil_append, List.cons_append]
        have hw6 : wfm (c_mwriteLine σ 5587782 (c_mcomponent σ (mat (σ.2 40) (mat (σ.2 36) i)) 0) (mat (σ.2 42) (mat (σ.2 36) i)) (-1)) := w_mwriteLine hw (by omega) (by omega) (by omega) (by omega) (mok_le (by rw [c_mwriteReportL, if_neg (by omega), if_neg (by omega)]; simp (maxDischargeDepth := 300) only [mle_refl, ↓sl_ite, ↓sl_mwrite, ↓sl_mwriteTag, ↓sl_mwriteComponentL, ↓sl_mwriteComponent, ↓sl_mwriteNumberL, ↓sl_mwriteNumber, ↓sl_mwriteLine, ↓sl_mwriteReportL]) hr)
        refine C_aload_n dX7_writeReport_82 rfl ?_
        refine C_ldcw (5587789) dX7_writeReport_83 k_X7_299 ?_
        refine C_aload_n dX7_writeReport_86 rfl ?_
        refine C_aload_n dX7_writeReport_87 rfl ?_
        refine C_get (v := .ref 134) dX7_writeReport_88 f_X7_66 (fun h hc => ⟨_, hc.1, rfl⟩) ?_
        refine C_iload_n dX7_writeReport_91 rfl ?_
        refine C_iald (v := vi (mat (σ.2 34) i)) dX7_writeReport_92 (by omega) (by omega) (fun h hc => (hc.rd34 hw6 (by omega) (by omega)).imp (fun vs q => ⟨q.1, q.2.trans (congrArg (fun z => some (vi (mat z i))) (show (c_mwriteLine σ 5587782 (c_mcomponent σ (mat (σ.2 40) (mat (σ.2 36) i)) 0) (mat (σ.2 42) (mat (σ.2 36) i)) (-1)).2 34 = σ.2 34 by simp [mfl, mar, upF, g2_mwriteLine]))⟩)) ?_
        have e_92 := hw.a34 i
        refine C_iconst dX7_writeReport_93 ?_
        refine D_callV (As := [vi _, vi _]) (d' := 0) (t_mcomponent hw6 (Nat.le_refl _) (by omega) (by omega)) dX7_writeReport_94 v_X7_205 (fun h hc => ⟨_, hc.1⟩) rfl (Nat.le_of_ble_eq_true rfl) (by omega) (Nat.le_of_ble_eq_true rfl) ?_
        simp only [Option.toList, List.nil_append, List.cons_append]
        have r_94 := r_mcomponent (s := (mat (σ.2 34) i)) (e := 0) hw6 (by omega) (by omega)
        refine C_aload_n dX7_writeReport_97 rfl ?_
        refine C_get (v := .ref 137) dX7_writeReport_98 f_X7_75 (fun h hc => ⟨_, hc.1, rfl⟩) ?_
        refine C_iload_n dX7_writeReport_101 rfl ?_
        refine C_iald (v := vi (mat (σ.2 37) i)) dX7_writeReport_102 (by omega) (by omega) (fun h hc => (hc.rd37 hw6 (by omega) (by omega)).imp (fun vs q => ⟨q.1, q.2.trans (congrArg (fun z => some (vi (mat z i))) (show (c_mwriteLine σ 5587782 (c_mcomponent σ (mat (σ.2 40) (mat (σ.2 36) i)) 0) (mat (σ.2 42) (mat (σ.2 36) i)) (-1)).2 37 = σ.2 37 by simp [mfl, mar, upF, g2_mwriteLine]))⟩)) ?_
        have e_102 := hw.a37 i
        refine C_aload_n dX7_writeReport_103 rfl ?_
        refine C_get (v := .ref 137) dX7_writeReport_104 f_X7_75 (fun h hc => ⟨_, hc.1, rfl⟩) ?_
        refine C_iload_n dX7_writeReport_107 rfl ?_
        refine C_iald (v := vi (mat (σ.2 37) i)) dX7_writeReport_108 (by omega) (by omega) (fun h hc => (hc.rd37 hw6 (by omega) (by omega)).imp (fun vs q => ⟨q.1, q.2.trans (congrArg (fun z => some (vi (mat z i))) (show (c_mwriteLine σ 5587782 (c_mcomponent σ (mat (σ.2 40) (mat (σ.2 36) i)) 0) (mat (σ.2 42) (mat (σ.2 36) i)) (-1)).2 37 = σ.2 37 by simp [mfl, mar, upF, g2_mwriteLine]))⟩)) ?_
        have e_108 := hw.a37 i
        refine C_if_le (tgt := 121) dX7_writeReport_109 (by decide) (by omega) (fun c_109 => ?_) (fun c_109 => ?_)
        · refine C_iconst dX7_writeReport_121 ?_
          refine D_callV (As := [vi _, vi _, vi _, vi _]) (d' := 2) (t_mwriteLine hw6 (Nat.le_refl _) (by omega) (by omega) (by omega) (by omega) (mok_le (by rw [c_mwriteReportL, if_neg (by omega), if_neg (by omega), if_pos (by omega)]; simp (maxDischargeDepth := 300) only [mle_refl, ↓sl_ite, ↓sl_mwrite, ↓sl_mwriteTag, ↓sl_mwriteComponentL, ↓sl_mwriteComponent, ↓sl_mwriteNumberL, ↓sl_mwriteNumber, ↓sl_mwriteLine, ↓sl_mwriteReportL]) hr)) dX7_writeReport_122 v_X7_294 (fun h hc => ⟨_, hc.1⟩) rfl (Nat.le_of_ble_eq_true rfl) (by omega) (Nat.le_of_ble_eq_true rfl) ?_
          simp only [Option.toList, List.nil_append, List.cons_append]
          have hw8 : wfm (c_mwriteLine (c_mwriteLine σ 5587782 (c_mcomponent σ (mat (σ.2 40) (mat (σ.2 36) i)) 0) (mat (σ.2 42) (mat (σ.2 36) i)) (-1)) 5587789 (c_mcomponent (c_mwriteLine σ 5587782 (c_mcomponent σ (mat (σ.2 40) (mat (σ.2 36) i)) 0) (mat (σ.2 42) (mat (σ.2 36) i)) (-1)) (mat (σ.2 34) i) 0) (mat (σ.2 37) i) (-1)) := w_mwriteLine hw6 (by omega) (by omega) (by omega) (by omega) (mok_le (by rw [c_mwriteReportL, if_neg (by omega), if_neg (by omega), if_pos (by omega)]; simp (maxDischargeDepth := 300) only [mle_refl, ↓sl_ite, ↓sl_mwrite, ↓sl_mwriteTag, ↓sl_mwriteComponentL, ↓sl_mwriteComponent, ↓sl_mwriteNumberL, ↓sl_mwriteNumber, ↓sl_mwriteLine, ↓sl_mwriteReportL]) hr)
          refine C_iinc dX7_writeReport_125 rfl (by decide) rfl ?_
          simp only [List.set_cons_zero, List.set_cons_succ]
          refine C_goto (tgt := 32) dX7_writeReport_128 (by decide) ?_
          rw [c_mwriteReportL, if_neg (by omega), if_neg (by omega), if_pos (by omega)]
          refine CJ.mono (ls' := [some (.ref 116), some (vi (mat (σ.2 36) i)), some (vi (i + 1))]) (lsub_ok (by repeat (first | exact trivial | refine ⟨rfl, ?_⟩))) (fun _ _ q => q) ?_
          exact ih hw8 (by omega) (by omega) (by rw [c_mwriteReportL, if_neg (by omega), if_neg (by omega), if_pos (by omega)] at hr; exact hr) (by omega)
        · refine C_aload_n dX7_writeReport_112 rfl ?_
          refine C_get (v := .ref 138) dX7_writeReport_113 f_X7_78 (fun h hc => ⟨_, hc.1, rfl⟩) ?_
          refine C_iload_n dX7_writeReport_116 rfl ?_
          refine C_iald (v := vi (mat (σ.2 38) i)) dX7_writeReport_117 (by omega) (by omega) (fun h hc => (hc.rd38 hw6 (by omega) (by omega)).imp (fun vs q => ⟨q.1, q.2.trans (congrArg (fun z => some (vi (mat z i))) (show (c_mwriteLine σ 5587782 (c_mcomponent σ (mat (σ.2 40) (mat (σ.2 36) i)) 0) (mat (σ.2 42) (mat (σ.2 36) i)) (-1)).2 38 = σ.2 38 by simp [mfl, mar, upF, g2_mwriteLine]))⟩)) ?_
          have e_117 := hw.a38 i
          refine C_goto (tgt := 122) dX7_writeReport_118 (by decide) ?_
          refine D_callV (As := [vi _, vi _, vi _, vi _]) (d' := 2) (t_mwriteLine hw6 (Nat.le_refl _) (by omega) (by omega) (by omega) (by omega) (mok_le (by rw [c_mwriteReportL, if_neg (by omega), if_neg (by omega), if_neg (by omega)]; simp (maxDischargeDepth := 300) only [mle_refl, ↓sl_ite, ↓sl_mwrite, ↓sl_mwriteTag, ↓sl_mwriteComponentL, ↓sl_mwriteComponent, ↓sl_mwriteNumberL, ↓sl_mwriteNumber, ↓sl_mwriteLine, ↓sl_mwriteReportL]) hr)) dX7_writeReport_122 v_X7_294 (fun h hc => ⟨_, hc.1⟩) rfl (Nat.le_of_ble_eq_true rfl) (by omega) (Nat.le_of_ble_eq_true rfl) ?_
          simp only [Option.toList, List.nil_append, List.cons_append]
          have hw9 : wfm (c_mwriteLine (c_mwriteLine σ 5587782 (c_mcomponent σ (mat (σ.2 40) (mat (σ.2 36) i)) 0) (mat (σ.2 42) (mat (σ.2 36) i)) (-1)) 5587789 (c_mcomponent (c_mwriteLine σ 5587782 (c_mcomponent σ (mat (σ.2 40) (mat (σ.2 36) i)) 0) (mat (σ.2 42) (mat (σ.2 36) i)) (-1)) (mat (σ.2 34) i) 0) (mat (σ.2 37) i) (mat (σ.2 38) i)) := w_mwriteLine hw6 (by omega) (by omega) (by omega) (by omega) (mok_le (by rw [c_mwriteReportL, if_neg (by omega), if_neg (by omega), if_neg (by omega)]; simp (maxDischargeDepth := 300) only [mle_refl, ↓sl_ite, ↓sl_mwrite, ↓sl_mwriteTag, ↓sl_mwriteComponentL, ↓sl_mwriteComponent, ↓sl_mwriteNumberL, ↓sl_mwriteNumber, ↓sl_mwriteLine, ↓sl_mwriteReportL]) hr)
          refine C_iinc dX7_writeReport_125 rfl (by decide) rfl ?_
          simp only [List.set_cons_zero, List.set_cons_succ]
          refine C_goto (tgt := 32) dX7_writeReport_128 (by decide) ?_
          rw [c_mwriteReportL, if_neg (by omega), if_neg (by omega), if_neg (by omega)]
          refine CJ.mono (ls' := [some (.ref 116), some (vi (mat (σ.2 36) i)), some (vi (i + 1))]) (lsub_ok (by repeat (first | exact trivial | refine ⟨rfl, ?_⟩))) (fun _ _ q => q) ?_
          exact ih hw9 (by omega) (by omega) (by rw [c_mwriteReportL, if_neg (by omega), if_neg (by omega), if_neg (by omega)] at hr; exact hr) (by omega)
theorem t_mwriteReport {l : Launch} {G : jG} {d : Nat} {σ : mS}  (hw : wfm σ) (hd : 3 ≤ d)  (hr : mok (c_mwriteReport σ)) : CJ jMod mown l G (Yx mX7_writeReport) d 0 0 0 [some (.ref 116), none, none] [] σ (det none (c_mwriteReport σ )) := by
  refine C_aload_n dX7_writeReport_0 rfl ?_
  refine C_iconst dX7_writeReport_1 ?_
  refine C_put (σ' := (mfl σ 52 1)) dX7_writeReport_2 f_X7_269 (jfit_zz (by omega)) mown_0 (fun h hc => hc.pf52) ?_
  have hw1 : wfm (mfl σ 52 1) := wfm_f (k := 52) hw (show (0 : Int) ≤ 1 ∧ 1 ≤ 1 by omega)
  refine C_aload_n dX7_writeReport_5 rfl ?_
  refine C_iconst dX7_writeReport_6 ?_
  refine C_put (σ' := (mfl (mfl σ 52 1) 50 0)) dX7_writeReport_7 f_X7_272 jfit_i mown_0 (fun h hc => hc.pf50) ?_
  have hw2 : wfm (mfl (mfl σ 52 1) 50 0) := wfm_f (k := 50) hw1 (show (0 : Int) ≤ 0 ∧ 0 ≤ 2400 by omega)
  refine C_aload_n dX7_writeReport_10 rfl ?_
  refine C_ldcw (5587785) dX7_writeReport_11 k_X7_293 ?_
  refine C_aload_n dX7_writeReport_14 rfl ?_
  refine C_iconst dX7_writeReport_15 ?_
  refine C_iconst dX7_writeReport_16 ?_
  refine D_callV (As := [vi _, vi _]) (d' := 0) (t_mcomponent hw2 (Nat.le_refl _) (by omega) (by omega)) dX7_writeReport_17 v_X7_205 (fun h hc => ⟨_, hc.1⟩) rfl (Nat.le_of_ble_eq_true rfl) (by omega) (Nat.le_of_ble_eq_true rfl) ?_
  simp only [Option.toList, List.nil_append, List.cons_append]
  have r_17 := r_mcomponent (s := 0) (e := 2) hw2 (by omega) (by omega)
  refine C_aload_n dX7_writeReport_20 rfl ?_
  refine C_get (v := vi (σ.1 32)) dX7_writeReport_21 f_X7_260 (fun h hc => ⟨_, hc.1, congrArg (fun z => some (vi z)) (show ((mfl (mfl σ 52 1) 50 0).1 32) = (σ.1 32) by simp [mfl, mar, upF])⟩) ?_
  have g_21 := hw.f32
  refine C_iconst dX7_writeReport_24 ?_
  refine D_callV (As := [vi _, vi _, vi _, vi _]) (d' := 2) (t_mwriteLine hw2 (Nat.le_refl _) (by omega) (by omega) (by omega) (by omega) (mok_le (by rw [c_mwriteReport]; simp (maxDischargeDepth := 300) only [mle_refl, ↓sl_ite, ↓sl_mwrite, ↓sl_mwriteTag, ↓sl_mwriteComponentL, ↓sl_mwriteComponent, ↓sl_mwriteNumberL, ↓sl_mwriteNumber, ↓sl_mwriteLine, ↓sl_mwriteReportL]) hr)) dX7_writeReport_25 v_X7_294 (fun h hc => ⟨_, hc.1⟩) rfl (Nat.le_of_ble_eq_true rfl) (by omega) (Nat.le_of_ble_eq_true rfl) ?_
  simp only [Option.toList, List.nil_append, List.cons_append]
  have hw3 : wfm (c_mwriteLine (mfl (mfl σ 52 1) 50 0) 5587785 (c_mcomponent (mfl (mfl σ 52 1) 50 0) 0 2) (σ.1 32) (-1)) := w_mwriteLine hw2 (by omega) (by omega) (by omega) (by omega) (mok_le (by rw [c_mwriteReport]; simp (maxDischargeDepth := 300) only [mle_refl, ↓sl_ite, ↓sl_mwrite, ↓sl_mwriteTag, ↓sl_mwriteComponentL, ↓sl_mwriteComponent, ↓sl_mwriteNumberL, ↓sl_mwriteNumber, ↓sl_mwriteLine, ↓sl_mwriteReportL]) hr)
  refine C_iconst dX7_writeReport_28 ?_
  refine C_istore_n dX7_writeReport_29 (by decide) rfl ?_
  simp only [List.set_cons_zero, List.set_cons_succ, jfin0, jfin1, jfin2, jfin3]
  refine C_iconst dX7_writeReport_30 ?_
  refine C_istore_n dX7_writeReport_31 (by decide) rfl ?_
  simp only [List.set_cons_zero, List.set_cons_succ, jfin0, jfin1, jfin2, jfin3]
  rw [c_mwriteReport]
  refine CJ.mono (ls' := [some (.ref 116), some (vi (-1)), some (vi 0)]) (lsub_ok (by repeat (first | exact trivial | refine ⟨rfl, ?_⟩))) (fun _ _ q => q) ?_
  exact t_mwriteReportL hw3 hd  (21) (by omega) (by omega) (by rw [c_mwriteReport] at hr; exact hr) (by omega)
theorem w_mwriteReportL {σ : mS}  {g i : Int} (hw : wfm σ)  (fu : Nat) (hg : -1 ≤ g ∧ g ≤ 19) (hi : 0 ≤ i ∧ i ≤ 20) (hr : mok (c_mwriteReportL fu g i σ)) : wfm (c_mwriteReportL  fu g i σ) := by
  induction fu generalizing σ g i with
  | zero => exact hw
  | succ fu ih =>
    unfold c_mwriteReportL
    split
    · have g_34 := hw.f33
      exact hw
    · split
      · split
        · have g_34 := hw.f33
          have e_45 := hw.a36 i
          have e_92 := hw.a34 i
          have r_94 := r_mcomponent (s := (mat (σ.2 34) i)) (e := 0) hw (by omega) (by omega)
          have e_102 := hw.a37 i
          have e_108 := hw.a37 i
          have hw4 : wfm (c_mwriteLine σ 5587789 (c_mcomponent σ (mat (σ.2 34) i) 0) (mat (σ.2 37) i) (-1)) := w_mwriteLine hw (by omega) (by omega) (by omega) (by omega) (mok_le (by rw [c_mwriteReportL, if_neg (by omega), if_pos (by omega), if_pos (by omega)]; simp (maxDischargeDepth := 300) only [mle_refl, ↓sl_ite, ↓sl_mwrite, ↓sl_mwriteTag, ↓sl_mwriteComponentL, ↓sl_mwriteComponent, ↓sl_mwriteNumberL, ↓sl_mwriteNumber, ↓sl_mwriteLine, ↓sl_mwriteReportL]) hr)
          exact ih hw4 (by omega) (by omega) (by rw [c_mwriteReportL, if_neg (by omega), if_pos (by omega), if_pos (by omega)] at hr; exact hr)
        · have g_34 := hw.f33
          have e_45 := hw.a36 i
          have e_92 := hw.a34 i
          have r_94 := r_mcomponent (s := (mat (σ.2 34) i)) (e := 0) hw (by omega) (by omega)
          have e_102 := hw.a37 i
          have e_108 := hw.a37 i
          have e_117 := hw.a38 i
          have hw5 : wfm (c_mwriteLine σ 5587789 (c_mcomponent σ (mat (σ.2 34) i) 0) (mat (σ.2 37) i) (mat (σ.2 38) i)) := w_mwriteLine hw (by omega) (by omega) (by omega) (by omega) (mok_le (by rw [c_mwriteReportL, if_neg (by omega), if_pos (by omega), if_neg (by omega)]; simp (maxDischargeDepth := 300) only [mle_refl, ↓sl_ite, ↓sl_mwrite, ↓sl_mwriteTag, ↓sl_mwriteComponentL, ↓sl_mwriteComponent, ↓sl_mwriteNumberL, ↓sl_mwriteNumber, ↓sl_mwriteLine, ↓sl_mwriteReportL]) hr)
          exact ih hw5 (by omega) (by omega) (by rw [c_mwriteReportL, if_neg (by omega), if_pos (by omega), if_neg (by omega)] at hr; exact hr)
      · split
        · have g_34 := hw.f33
          have e_45 := hw.a36 i
          have e_55 := hw.a36 i
          have e_67 := hw.a40 (mat (σ.2 36) i)
          have r_69 := r_mcomponent (s := (mat (σ.2 40) (mat (σ.2 36) i))) (e := 0) hw (by omega) (by omega)
          have e_77 := hw.a42 (mat (σ.2 36) i)
          have hw6 : wfm (c_mwriteLine σ 5587782 (c_mcomponent σ (mat (σ.2 40) (mat (σ.2 36) i)) 0) (mat (σ.2 42) (mat (σ.2 36) i)) (-1)) := w_mwriteLine hw (by omega) (by omega) (by omega) (by omega) (mok_le (by rw [c_mwriteReportL, if_neg (by omega), if_neg (by omega)]; simp (maxDischargeDepth := 300) only [mle_refl, ↓sl_ite, ↓sl_mwrite, ↓sl_mwriteTag, ↓sl_mwriteComponentL, ↓sl_mwriteComponent, ↓sl_mwriteNumberL, ↓sl_mwriteNumber, ↓sl_mwriteLine, ↓sl_mwriteReportL]) hr)
          have e_92 := hw.a34 i
          have r_94 := r_mcomponent (s := (mat (σ.2 34) i)) (e := 0) hw6 (by omega) (by omega)
          have e_102 := hw.a37 i
          have e_108 := hw.a37 i
          have hw8 : wfm (c_mwriteLine (c_mwriteLine σ 5587782 (c_mcomponent σ (mat (σ.2 40) (mat (σ.2 36) i)) 0) (mat (σ.2 42) (mat (σ.2 36) i)) (-1)) 5587789 (c_mcomponent (c_mwriteLine σ 5587782 (c_mcomponent σ (mat (σ.2 40) (mat (σ.2 36) i)) 0) (mat (σ.2 42) (mat (σ.2 36) i)) (-1)) (mat (σ.2 34) i) 0) (mat (σ.2 37) i) (-1)) := w_mwriteLine hw6 (by omega) (by omega) (by omega) (by omega) (mok_le (by rw [c_mwriteReportL, if_neg (by omega), if_neg (by omega), if_pos (by omega)]; simp (maxDischargeDepth := 300) only [mle_refl, ↓sl_ite, ↓sl_mwrite, ↓sl_mwriteTag, ↓sl_mwriteComponentL, ↓sl_mwriteComponent, ↓sl_mwriteNumberL, ↓sl_mwriteNumber, ↓sl_mwriteLine, ↓sl_mwriteReportL]) hr)
          exact ih hw8 (by omega) (by omega) (by rw [c_mwriteReportL, if_neg (by omega), if_neg (by omega), if_pos (by omega)] at hr; exact hr)
        · have g_34 := hw.f33
          have e_45 := hw.a36 i
          have e_55 := hw.a36 i
          have e_67 := hw.a40 (mat (σ.2 36) i)
          have r_69 := r_mcomponent (s := (mat (σ.2 40) (mat (σ.2 36) i))) (e := 0) hw (by omega) (by omega)
          have e_77 := hw.a42 (mat (σ.2 36) i)
          have hw6 : wfm (c_mwriteLine σ 5587782 (c_mcomponent σ (mat (σ.2 40) (mat (σ.2 36) i)) 0) (mat (σ.2 42) (mat (σ.2 36) i)) (-1)) := w_mwriteLine hw (by omega) (by omega) (by omega) (by omega) (mok_le (by rw [c_mwriteReportL, if_neg (by omega), if_neg (by omega)]; simp (maxDischargeDepth := 300) only [mle_refl, ↓sl_ite, ↓sl_mwrite, ↓sl_mwriteTag, ↓sl_mwriteComponentL, ↓sl_mwriteComponent, ↓sl_mwriteNumberL, ↓sl_mwriteNumber, ↓sl_mwriteLine, ↓sl_mwriteReportL]) hr)
          have e_92 := hw.a34 i
          have r_94 := r_mcomponent (s := (mat (σ.2 34) i)) (e := 0) hw6 (by omega) (by omega)
          have e_102 := hw.a37 i
          have e_108 := hw.a37 i
          have e_117 := hw.a38 i
          have hw9 : wfm (c_mwriteLine (c_mwriteLine σ 5587782 (c_mcomponent σ (mat (σ.2 40) (mat (σ.2 36) i)) 0) (mat (σ.2 42) (mat (σ.2 36) i)) (-1)) 5587789 (c_mcomponent (c_mwriteLine σ 5587782 (c_mcomponent σ (mat (σ.2 40) (mat (σ.2 36) i)) 0) (mat (σ.2 42) (mat (σ.2 36) i)) (-1)) (mat (σ.2 34) i) 0) (mat (σ.2 37) i) (mat (σ.2 38) i)) := w_mwriteLine hw6 (by omega) (by omega) (by omega) (by omega) (mok_le (by rw [c_mwriteReportL, if_neg (by omega), if_neg (by omega), if_neg (by omega)]; simp (maxDischargeDepth := 300) only [mle_refl, ↓sl_ite, ↓sl_mwrite, ↓sl_mwriteTag, ↓sl_mwriteComponentL, ↓sl_mwriteComponent, ↓sl_mwriteNumberL, ↓sl_mwriteNumber, ↓sl_mwriteLine, ↓sl_mwriteReportL]) hr)
          exact ih hw9 (by omega) (by omega) (by rw [c_mwriteReportL, if_neg (by omega), if_neg (by omega), if_neg (by omega)] at hr; exact hr)
theorem w_mwriteReport {σ : mS}  (hw : wfm σ)  (hr : mok (c_mwriteReport σ)) : wfm (c_mwriteReport σ ) := by
  unfold c_mwriteReport
  have hw1 : wfm (mfl σ 52 1) := wfm_f (k := 52) hw (show (0 : Int) ≤ 1 ∧ 1 ≤ 1 by omega)
  have hw2 : wfm (mfl (mfl σ 52 1) 50 0) := wfm_f (k := 50) hw1 (show (0 : Int) ≤ 0 ∧ 0 ≤ 2400 by omega)
  have r_17 := r_mcomponent (s := 0) (e := 2) hw2 (by omega) (by omega)
  have g_21 := hw.f32
  have hw3 : wfm (c_mwriteLine (mfl (mfl σ 52 1) 50 0) 5587785 (c_mcomponent (mfl (mfl σ 52 1) 50 0) 0 2) (σ.1 32) (-1)) := w_mwriteLine hw2 (by omega) (by omega) (by omega) (by omega) (mok_le (by rw [c_mwriteReport]; simp (maxDischargeDepth := 300) only [mle_refl, ↓sl_ite, ↓sl_mwrite, ↓sl_mwriteTag, ↓sl_mwriteComponentL, ↓sl_mwriteComponent, ↓sl_mwriteNumberL, ↓sl_mwriteNumber, ↓sl_mwriteLine, ↓sl_mwriteReportL]) hr)
  exact w_mwriteReportL hw3  (21) (by omega) (by omega) (by rw [c_mwriteReport] at hr; exact hr)
