theorem kd1 : kd 1 = 6 := by decide
theorem ownD {p : Nat} (h : kd p = 6) : jown p := kd_all (c := 6) (Q := fun p => jown p) (by decide) (by unfold jown; decide) h
theorem jfit_zv : jfit .boolean (vi 1) := jfit_z1
/-- the desk's cell is written -/
theorem jCls.desk {h : jH} {σ τ : cS} {c : Nat × List Value} (hc : jCls h σ) (h1 : τ.1 = σ.1) (h2 : ∀ q j, q ≠ 1 → τ.2.1 q j = σ.2.1 q j)
    (hd : c = (6, [.ref 2, .ref 5, .ref 6, .ref 9, .ref τ.2.2, .ref (54 - τ.2.2), vi (τ.2.1 1 6), vi (τ.2.1 1 7)])) : jCls (jup h 1 c) τ := by
  obtain ⟨g1, g2, g3, g4, g5, g6, g7, g8⟩ := hc
  have ne : ∀ {q c' : Nat}, kd q = c' → c' ≠ 6 → q ≠ 1 := fun hq n e => n (by rw [← hq, e]; decide)
  refine ⟨fun r hr => ?_, fun q hq => ?_, fun q hq => ?_, fun q hq => ?_, fun q hq => ?_, fun q hq => ?_, ?_, ?_⟩
  · obtain ⟨x1, ys, x2, x3⟩ := g1 r hr
    rw [h1]
    exact ⟨(jup_ne (ne hr (by decide))).trans x1, ys, (jup_ne (ne (kd_row hr).1 (by decide))).trans x2, x3⟩
  · rw [jup_ne (ne hq (by decide))]; exact g2 q hq
  · rw [jup_ne (ne hq (by decide)), g3 q hq]; simp only [h2 _ _ (ne hq (by decide))]
  · rw [jup_ne (ne hq (by decide)), g4 q hq]; simp only [h2 _ _ (ne hq (by decide))]
  · rw [jup_ne (ne hq (by decide)), g5 q hq]; simp only [h2 _ _ (ne hq (by decide))]
  · rw [jup_ne (ne hq (by decide))]; exact g6 q hq
  · rw [jup_ne (by decide)]; exact g7
  · rw [jup_same]; exact hd
theorem jCls.putD6 {h : jH} {σ : cS} {v : Int} (hc : jCls h σ) (_ : kd 1 = 6) : ∃ fs, h 1 = (6, fs) ∧ 6 < fs.length ∧ jCls (jup h 1 (6, fs.set 6 (vi v))) (cI σ 1 6 v) :=
  ⟨_, hc.2.2.2.2.2.2.2, Nat.le_of_ble_eq_true rfl, hc.desk rfl (fun q j n => by simp [cI, upI, n]) (by simp [cI, upI])⟩
theorem jCls.putD7 {h : jH} {σ : cS} {v : Int} (hc : jCls h σ) (_ : kd 1 = 6) : ∃ fs, h 1 = (6, fs) ∧ 7 < fs.length ∧ jCls (jup h 1 (6, fs.set 7 (vi v))) (cI σ 1 7 v) :=
  ⟨_, hc.2.2.2.2.2.2.2, Nat.le_of_ble_eq_true rfl, hc.desk rfl (fun q j n => by simp [cI, upI, n]) (by simp [cI, upI])⟩
/-- kept and fresh change places -/
def csw (σ : cS) : cS := (σ.1, σ.2.1, 54 - σ.2.2)
theorem wf_sw {σ : cS} (hw : wf σ) : wf (csw σ) := ⟨hw.1, hw.2.1, hw.2.2.1, by rcases hw.2.2.2 with e | e <;> simp [csw, e]⟩
/-- what is thrown, an answer, a state -/
def jout : Option String → Int → jO
  | none, v => .inl (some (vi v))
  | some E, _ => .inr E
def dte (c : Option String × Int × cS) : jO → cS → Prop := fun o τ => o = jout c.1 c.2.1 ∧ τ = c.2.2
def thr {S : Type} (E : String) (τ : S) : jO → S → Prop := fun o σ => o = .inr E ∧ σ = τ
section CX
variable {S : Type} {inv : jH → S → Prop} {own : Nat → Prop} {l : Launch} {G : jG} {Y : jY} {d bc bs pc : Nat} {ls : List (Option Value)} {st : List Value} {σ : S} {P : jO → S → Prop}
theorem D_callVX {idx r ci d' bc' bs' : Nat} {Y' : jM} {As : List Value} {ls0 : List (Option Value)} {E : String} {τ : S} (hM : CJ inv own l G (Y', []) d' bc' bs' 0 ls0 [] σ (thr E τ)) (hd : decode Y.1.2.1 pc = .ok (.invokevirtual idx, 3)) (hv : jvir Y.1.1.cls idx ci Y' As.length) (hc : ∀ h, inv h σ → ∃ fs, h r = (ci, fs)) (hls : ls0 = jent (.ref r :: As) Y'.2.2.1) (hn : (jflat (.ref r :: As)).length ≤ Y'.2.2.1) (hdd : d' + 1 ≤ d) (hw : (st.map fun v => v.category).sum ≤ 8) (hT : Y.2 = []) (hP : P (.inr E) τ) : CJ inv own l G Y d (bc + bc') (bs + bs') pc ls (As.reverse ++ .ref r :: st) σ P :=
  C_callV hd hv hc hls hn hdd hw hM (fun E' s' q => by obtain ⟨e1, e2⟩ := q; cases Sum.inr.inj e1; subst e2; exact ⟨hP, hT⟩) (fun v' s' q => by cases q.1)
end CX
section TOF
variable {l : Launch} {G : jG} {d : Nat} {σ : cS}
theorem tab4 {t : Int} (h : 0 ≤ t ∧ t < 4) : kd (72 + 11 * Int.toNat t) = 4 := by
  have : t.toNat = 0 ∨ t.toNat = 1 ∨ t.toNat = 2 ∨ t.toNat = 3 := by omega
  rcases this with e | e | e | e <;> rw [e] <;> decide
theorem t_tableOf (hw : wf σ) {t : Int} (h : 0 ≤ t ∧ t < 4) : CJ jCls jown l G (Yx mX6_tableOf) d 0 0 0 [some (.ref 1), some (vi t)] [] σ (det (some (.ref (72 + 11 * Int.toNat t))) σ) := by
  refine C_iload_n dX6_tableOf_0 rfl ?_
  refine C_if_lt (tgt := 22) dX6_tableOf_1 (by decide) (by omega) (fun c => absurd c (by omega)) (fun c => ?_)
  refine C_iload_n dX6_tableOf_4 rfl ?_
  refine C_aload_n dX6_tableOf_5 rfl ?_
  refine C_get dX6_tableOf_6 f_X6_18 (fun h hc => ⟨_, hc.2.2.2.2.2.2.2, rfl⟩) ?_
  refine C_alen (ci := 13) (m := 4) dX6_tableOf_9 (by decide) (fun h hc => ⟨_, hc.2.2.2.2.2.2.1, rfl⟩) ?_
  refine C_icmp_ge (tgt := 22) dX6_tableOf_10 (by decide) (by omega) (by omega) (fun c => absurd c (by omega)) (fun c => ?_)
  refine C_aload_n dX6_tableOf_13 rfl ?_
  refine C_get dX6_tableOf_14 f_X6_18 (fun h hc => ⟨_, hc.2.2.2.2.2.2.2, rfl⟩) ?_
  refine C_iload_n dX6_tableOf_17 rfl ?_
  refine C_aald (v := .ref (72 + 11 * Int.toNat t)) dX6_tableOf_18 (by omega) (by omega) (fun h hc => ⟨_, hc.2.2.2.2.2.2.1, ?_⟩) ?_
  · have : t.toNat = 0 ∨ t.toNat = 1 ∨ t.toNat = 2 ∨ t.toNat = 3 := by omega
    rcases this with e | e | e | e <;> rw [e] <;> rfl
  refine C_goto (tgt := 23) dX6_tableOf_19 (by decide) ?_
  exact C_aret dX6_tableOf_23 rfl ⟨rfl, rfl⟩
theorem t_tableOfN (hw : wf σ) {t : Int} (hr : rg t) (h : ¬ (0 ≤ t ∧ t < 4)) : CJ jCls jown l G (Yx mX6_tableOf) d 0 0 0 [some (.ref 1), some (vi t)] [] σ (det (some .null) σ) := by
  have fin : CJ jCls jown l G (Yx mX6_tableOf) d 0 0 22 [some (.ref 1), some (vi t)] [] σ (det (some .null) σ) := C_null dX6_tableOf_22 (C_aretN dX6_tableOf_23 rfl ⟨rfl, rfl⟩)
  refine C_iload_n dX6_tableOf_0 rfl ?_
  refine C_if_lt (tgt := 22) dX6_tableOf_1 (by decide) (by omega) (fun c => fin) (fun c => ?_)
  refine C_iload_n dX6_tableOf_4 rfl ?_
  refine C_aload_n dX6_tableOf_5 rfl ?_
  refine C_get dX6_tableOf_6 f_X6_18 (fun h hc => ⟨_, hc.2.2.2.2.2.2.2, rfl⟩) ?_
  refine C_alen (ci := 13) (m := 4) dX6_tableOf_9 (by decide) (fun h hc => ⟨_, hc.2.2.2.2.2.2.1, rfl⟩) ?_
  exact C_icmp_ge (tgt := 22) dX6_tableOf_10 (by decide) (by omega) (by omega) (fun c => fin) (fun c => absurd c (by omega))
theorem t_need0 (hw : wf σ) (hd : 6 ≤ d) (h : σ.2.1 1 6 = 0) : CJ jCls jown l G (Yx mX6_needInterchange) d 1 6 0 [some (.ref 1)] [] σ (thr "java/lang/IllegalStateException" σ) := by
  refine C_aload_n dX6_needInterchange_0 rfl ?_
  refine C_get dX6_needInterchange_1 f_X6_44 (fun h hc => ⟨_, hc.2.2.2.2.2.2.2, rfl⟩) ?_
  refine C_if_ne (tgt := 17) dX6_needInterchange_4 (by decide) (by omega) (fun c => absurd h c) (fun c => ?_)
  exact C_throw dX6_needInterchange_7 dX6_needInterchange_10 dX6_needInterchange_11 dX6_needInterchange_13 dX6_needInterchange_16 t_X6_95_191 (by omega) (Nat.le_of_ble_eq_true rfl) rfl ⟨rfl, rfl⟩
theorem t_need1 (hw : wf σ) (h : ¬ σ.2.1 1 6 = 0) : CJ jCls jown l G (Yx mX6_needInterchange) d 0 0 0 [some (.ref 1)] [] σ (det none σ) := by
  have g := hw.2.2.1 1 6
  refine C_aload_n dX6_needInterchange_0 rfl ?_
  refine C_get dX6_needInterchange_1 f_X6_44 (fun h hc => ⟨_, hc.2.2.2.2.2.2.2, rfl⟩) ?_
  refine C_if_ne (tgt := 17) dX6_needInterchange_4 (by decide) (by omega) (fun c => ?_) (fun c => absurd c h)
  exact C_vret dX6_needInterchange_17 rfl ⟨rfl, rfl⟩
end TOF
def c_wipe (σ : cS)  : cS := (c_xempty σ 2)
theorem t_wipe {l : Launch} {G : jG} {d : Nat} {σ : cS}  (hw : wf σ) (hd : 2 ≤ d)  : CJ jCls jown l G (Yx mX6_wipe) d 0 0 0 [some (.ref 1)] [] σ (det none (c_wipe σ )) := by
  refine C_aload_n dX6_wipe_0 rfl ?_
  refine C_get dX6_wipe_1 f_X6_12 (fun h hc => ⟨_, hc.2.2.2.2.2.2.2, rfl⟩) ?_
  refine D_callV (As := []) (d' := 1) (t_xempty hw (Nat.le_refl _) kd2) dX6_wipe_4 v_X6_64 (fun h hc => ⟨_, hc.2.2.2.2.1 _ kd2⟩) rfl (Nat.le_of_ble_eq_true rfl) (by omega) (Nat.le_of_ble_eq_true rfl) ?_
  simp only [Option.toList, List.nil_append, List.cons_append]
  have hw1 : wf (c_xempty σ 2) := w_xempty hw kd2
  refine C_vret dX6_wipe_7 rfl ⟨rfl, ?_⟩
  rw [c_wipe]
theorem w_wipe {σ : cS}  (hw : wf σ)  : wf (c_wipe σ ) := by
  unfold c_wipe
  have hw1 : wf (c_xempty σ 2) := w_xempty hw kd2
  exact hw1
theorem i_wipe {σ : cS}  : (c_wipe σ ).2 = σ.2 := by
  unfold c_wipe
  (repeat' split) <;> simp [cadd, cput, cemp, i_addCharacter, i_addComponent, i_addElement, i_addSegment, i_eempty, i_finish, i_judgeMessageN, i_note, i_pempty, i_putNumber, i_putTag, i_tadd, i_xadd, i_xempty]
def c_length (σ : cS)  : Int := (c_xsize σ 2)
theorem t_length {l : Launch} {G : jG} {d : Nat} {σ : cS}  (hw : wf σ) (hd : 2 ≤ d)  : CJ jCls jown l G (Yx mX6_length) d 0 0 0 [some (.ref 1)] [] σ (det (some (vi (c_length σ ))) σ) := by
  refine C_aload_n dX6_length_0 rfl ?_
  refine C_get dX6_length_1 f_X6_12 (fun h hc => ⟨_, hc.2.2.2.2.2.2.2, rfl⟩) ?_
  refine D_callV (As := []) (d' := 1) (t_xsize hw (Nat.le_refl _) kd2) dX6_length_4 v_X6_57 (fun h hc => ⟨_, hc.2.2.2.2.1 _ kd2⟩) rfl (Nat.le_of_ble_eq_true rfl) (by omega) (Nat.le_of_ble_eq_true rfl) ?_
  simp only [Option.toList, List.nil_append, List.cons_append]
  have r_4 := r_xsize (x := 2) hw kd2
  refine C_iret dX6_length_7 rfl ?_
  unfold det; rw [c_length]; exact ⟨rfl, rfl⟩
theorem r_length {σ : cS}  (hw : wf σ)  : 0 ≤ (c_length σ ) ∧ (c_length σ ) < 2001 := by
  unfold c_length
  have r_4 := r_xsize (x := 2) hw kd2
  omega
def c_fault (σ : cS)  : Int := (σ.2.1 1 7)
theorem t_fault {l : Launch} {G : jG} {d : Nat} {σ : cS}  (hw : wf σ) (hd : 0 ≤ d)  : CJ jCls jown l G (Yx mX6_fault) d 0 0 0 [some (.ref 1)] [] σ (det (some (vi (c_fault σ ))) σ) := by
  refine C_aload_n dX6_fault_0 rfl ?_
  refine C_get dX6_fault_1 f_X6_48 (fun h hc => ⟨_, hc.2.2.2.2.2.2.2, rfl⟩) ?_
  have g_1 := hw.2.2.1 1 7
  refine C_iret dX6_fault_4 rfl ?_
  unfold det; rw [c_fault]; exact ⟨rfl, rfl⟩
theorem r_fault {σ : cS}  (hw : wf σ)  : -3000 ≤ (c_fault σ ) ∧ (c_fault σ ) < 100000000 := by
  unfold c_fault
  have g_1 := hw.2.2.1 1 7
  omega
def c_isTag (σ : cS) (v : Int) : Bool := (if (c_isCapital σ (v % 4294967296 / 65536)) = true then (if (c_isCapital σ ((v % 4294967296 / 256) % 256)) = true then (if (c_isCapital σ (v % 256)) = true then true else false) else false) else false)
theorem t_isTag {l : Launch} {G : jG} {d : Nat} {σ : cS} {v : Int} (hw : wf σ) (hd : 1 ≤ d) (hv : rg v) : CJ jCls jown l G (Yx mX6_isTag) d 0 0 0 [some (vi v)] [] σ (det (some (vi (bz (c_isTag σ v)))) σ) := by
  refine C_iload_n dX6_isTag_0 rfl ?_
  refine C_bipush dX6_isTag_1 (by decide) ?_
  refine C_ushr16 dX6_isTag_3 ?_
  refine D_callS (As := [vi _]) (d' := 0) (t_isCapital hw (Nat.le_refl _) (by omega)) dX6_isTag_4 s_X6_193 rfl (Nat.le_of_ble_eq_true rfl) (by omega) (Nat.le_of_ble_eq_true rfl) ?_
  simp only [Option.toList, List.nil_append, List.cons_append]
  refine C_if_eqZ (tgt := 39) dX6_isTag_7 (by decide) (fun c_7 => ?_) (fun c_7 => ?_)
  · refine C_iconst dX6_isTag_39 ?_
    refine C_zret dX6_isTag_40 rfl (by first | exact Or.inl rfl | exact Or.inr rfl | exact bz_01 _) ?_
    unfold det; rw [c_isTag, if_neg (by rw [c_7]; decide)]; exact ⟨rfl, rfl⟩
  · have b_7_1 := isCapital_t (σ := _) (c := (v % 4294967296 / 65536)) (by assumption)
    refine C_iload_n dX6_isTag_10 rfl ?_
    refine C_bipush dX6_isTag_11 (by decide) ?_
    refine C_ushr8 dX6_isTag_13 ?_
    refine C_sipush dX6_isTag_14 (by decide) ?_
    refine C_and255 dX6_isTag_17 ?_
    refine D_callS (As := [vi _]) (d' := 0) (t_isCapital hw (Nat.le_refl _) (by omega)) dX6_isTag_18 s_X6_193 rfl (Nat.le_of_ble_eq_true rfl) (by omega) (Nat.le_of_ble_eq_true rfl) ?_
    simp only [Option.toList, List.nil_append, List.cons_append]
    refine C_if_eqZ (tgt := 39) dX6_isTag_21 (by decide) (fun c_21 => ?_) (fun c_21 => ?_)
    · refine C_iconst dX6_isTag_39 ?_
      refine C_zret dX6_isTag_40 rfl (by first | exact Or.inl rfl | exact Or.inr rfl | exact bz_01 _) ?_
      unfold det; rw [c_isTag, if_pos c_7, if_neg (by rw [c_21]; decide)]; exact ⟨rfl, rfl⟩
    · have b_21_2 := isCapital_t (σ := _) (c := ((v % 4294967296 / 256) % 256)) (by assumption)
      refine C_iload_n dX6_isTag_24 rfl ?_
      refine C_sipush dX6_isTag_25 (by decide) ?_
      refine C_and255 dX6_isTag_28 ?_
      refine D_callS (As := [vi _]) (d' := 0) (t_isCapital hw (Nat.le_refl _) (by omega)) dX6_isTag_29 s_X6_193 rfl (Nat.le_of_ble_eq_true rfl) (by omega) (Nat.le_of_ble_eq_true rfl) ?_
      simp only [Option.toList, List.nil_append, List.cons_append]
      refine C_if_eqZ (tgt := 39) dX6_isTag_32 (by decide) (fun c_32 => ?_) (fun c_32 => ?_)
      · refine C_iconst dX6_isTag_39 ?_
        refine C_zret dX6_isTag_40 rfl (by first | exact Or.inl rfl | exact Or.inr rfl | exact bz_01 _) ?_
        unfold det; rw [c_isTag, if_pos c_7, if_pos c_21, if_neg (by rw [c_32]; decide)]; exact ⟨rfl, rfl⟩
      · have b_32_3 := isCapital_t (σ := _) (c := (v % 256)) (by assumption)
        refine C_iconst dX6_isTag_35 ?_
        refine C_goto (tgt := 40) dX6_isTag_36 (by decide) ?_
        refine C_zret dX6_isTag_40 rfl (by first | exact Or.inl rfl | exact Or.inr rfl | exact bz_01 _) ?_
        unfold det; rw [c_isTag, if_pos c_7, if_pos c_21, if_pos c_32]; exact ⟨rfl, rfl⟩
theorem isTag_t {σ : cS} {c : Int} (h : c_isTag σ c = true) : 0 ≤ c ∧ c < 16777216 ∨ c < -2147483648 ∨ 2147483648 ≤ c := by
  unfold c_isTag c_isCapital at h
  by_cases h1 : c % 4294967296 / 65536 < 65
  · rw [if_pos h1] at h; cases h
  · by_cases h2 : 90 < c % 4294967296 / 65536
    · rw [if_neg h1, if_pos h2] at h; cases h
    · omega
theorem isDeepest_f {σ : cS} {t : Nat} (h : ¬ c_isDeepest σ t = true) : σ.2.1 t 5 < 3 := by
  unfold c_isDeepest at h
  split at h <;> first | omega | exact absurd rfl h
theorem isMost_t {σ : cS} {c : Int} (h : c_isMost σ c = true) : 1 ≤ c ∧ c ≤ 99 := by
  unfold c_isMost at h
  (repeat' split at h) <;> first | omega | cases h
def c_slot (σ : cS) (t : Int) (v : Int) (b : Int) (c : Int) : Option String × Int × cS := (if 0 ≤ t ∧ t < 4 then (if (c_isTag σ v) = true then (if (c_isEnvelopeTag σ v) = true then (some "java/lang/IllegalArgumentException", 0, σ) else (if (c_isMost σ c) = true then (if (c_tisFull σ (72 + 11 * Int.toNat t)) = true then (some "java/lang/IllegalStateException", 0, σ) else (if (c_wantsTrigger σ (72 + 11 * Int.toNat t)) = true then (if b = 0 then (some "java/lang/IllegalStateException", 0, σ) else (if c = 1 then (none, (c_tadd σ (72 + 11 * Int.toNat t) v b c).1, (c_tadd σ (72 + 11 * Int.toNat t) v b c).2) else (some "java/lang/IllegalStateException", 0, σ))) else (none, (c_tadd σ (72 + 11 * Int.toNat t) v b c).1, (c_tadd σ (72 + 11 * Int.toNat t) v b c).2))) else (some "java/lang/IllegalArgumentException", 0, σ))) else (some "java/lang/IllegalArgumentException", 0, σ)) else (some "java/lang/IllegalArgumentException", 0, σ))
theorem t_slot {l : Launch} {G : jG} {d : Nat} {σ : cS} {t : Int} {v : Int} {b : Int} {c : Int} (hw : wf σ) (hd : 6 ≤ d) (ht : rg t) (hv : rg v) (hb : 0 ≤ b ∧ b ≤ 1) (hc : rg c) : CJ jCls jown l G (Yx mX6_slot) d 1 6 0 [some (.ref 1), some (vi t), some (vi v), some (vi b), some (vi c), none] [] σ (dte (c_slot σ t v b c)) := by
  refine C_aload_n dX6_slot_0 rfl ?_
  refine C_iload_n dX6_slot_1 rfl ?_
  by_cases c_2 : 0 ≤ t ∧ t < 4
  · refine D_callV (As := [vi _]) (d' := 0) (t_tableOf hw c_2) dX6_slot_2 v_X6_67 (fun h hc => ⟨_, hc.2.2.2.2.2.2.2⟩) rfl (Nat.le_of_ble_eq_true rfl) (by omega) (Nat.le_of_ble_eq_true rfl) ?_
    simp only [Option.toList, List.nil_append, List.cons_append]
    refine C_astore dX6_slot_5 (by decide) rfl ?_
    simp only [List.set_cons_zero, List.set_cons_succ, jfin0, jfin1, jfin2, jfin3]
    refine C_aload dX6_slot_7 rfl ?_
    refine C_ifnull dX6_slot_9 ?_
    refine C_iload_n dX6_slot_12 rfl ?_
    refine D_callS (As := [vi _]) (d' := 1) (t_isTag hw (Nat.le_refl _) (by omega)) dX6_slot_13 s_X6_71 rfl (Nat.le_of_ble_eq_true rfl) (by omega) (Nat.le_of_ble_eq_true rfl) ?_
    simp only [Option.toList, List.nil_append, List.cons_append]
    refine C_if_eqZ (tgt := 34) dX6_slot_16 (by decide) (fun c_16 => ?_) (fun c_16 => ?_)
    · refine C_throw dX6_slot_34 dX6_slot_37 dX6_slot_38 dX6_slot_40 dX6_slot_43 t_X6_81_83 (by omega) (Nat.le_of_ble_eq_true rfl) rfl ?_
      unfold dte; rw [c_slot, if_pos (by omega), if_neg (by rw [c_16]; decide)]; exact ⟨rfl, rfl⟩
    · have b_16_1 := isTag_t (σ := _) (c := v) (by assumption)
      refine C_iload_n dX6_slot_19 rfl ?_
      refine D_callS (As := [vi _]) (d' := 0) (t_isEnvelopeTag hw (Nat.le_refl _) (by omega)) dX6_slot_20 s_X6_75 rfl (Nat.le_of_ble_eq_true rfl) (by omega) (Nat.le_of_ble_eq_true rfl) ?_
      simp only [Option.toList, List.nil_append, List.cons_append]
      refine C_if_neZ (tgt := 34) dX6_slot_23 (by decide) (fun c_23 => ?_) (fun c_23 => ?_)
      · refine C_throw dX6_slot_34 dX6_slot_37 dX6_slot_38 dX6_slot_40 dX6_slot_43 t_X6_81_83 (by omega) (Nat.le_of_ble_eq_true rfl) rfl ?_
        unfold dte; rw [c_slot, if_pos (by omega), if_pos c_16, if_pos c_23]; exact ⟨rfl, rfl⟩
      · refine C_iload dX6_slot_26 rfl ?_
        refine D_callS (As := [vi _]) (d' := 0) (t_isMost hw (Nat.le_refl _) (by omega)) dX6_slot_28 s_X6_78 rfl (Nat.le_of_ble_eq_true rfl) (by omega) (Nat.le_of_ble_eq_true rfl) ?_
        simp only [Option.toList, List.nil_append, List.cons_append]
        refine C_if_neZ (tgt := 44) dX6_slot_31 (by decide) (fun c_31 => ?_) (fun c_31 => ?_)
        · have b_31_3 := isMost_t (σ := _) (c := c) (by assumption)
          refine C_aload dX6_slot_44 rfl ?_
          refine D_callV (As := []) (d' := 1) (t_tisFull hw (Nat.le_refl _) (tab4 (by assumption))) dX6_slot_46 v_X6_88 (fun h hc => ⟨_, hc.2.2.2.1 _ (tab4 (by assumption))⟩) rfl (Nat.le_of_ble_eq_true rfl) (by omega) (Nat.le_of_ble_eq_true rfl) ?_
          simp only [Option.toList, List.nil_append, List.cons_append]
          refine C_if_neZ (tgt := 70) dX6_slot_49 (by decide) (fun c_49 => ?_) (fun c_49 => ?_)
          · refine C_throw dX6_slot_70 dX6_slot_73 dX6_slot_74 dX6_slot_76 dX6_slot_79 t_X6_95_97 (by omega) (Nat.le_of_ble_eq_true rfl) rfl ?_
            unfold dte; rw [c_slot, if_pos (by omega), if_pos c_16, if_neg (by rw [c_23]; decide), if_pos c_31, if_pos c_49]; exact ⟨rfl, rfl⟩
          · refine C_aload dX6_slot_52 rfl ?_
            refine D_callV (As := []) (d' := 1) (t_wantsTrigger hw (Nat.le_refl _) (tab4 (by assumption))) dX6_slot_54 v_X6_92 (fun h hc => ⟨_, hc.2.2.2.1 _ (tab4 (by assumption))⟩) rfl (Nat.le_of_ble_eq_true rfl) (by omega) (Nat.le_of_ble_eq_true rfl) ?_
            simp only [Option.toList, List.nil_append, List.cons_append]
            refine C_if_eqZ (tgt := 80) dX6_slot_57 (by decide) (fun c_57 => ?_) (fun c_57 => ?_)
            · refine C_aload dX6_slot_80 rfl ?_
              refine C_iload_n dX6_slot_82 rfl ?_
              refine C_iload_n dX6_slot_83 rfl ?_
              refine C_iload dX6_slot_84 rfl ?_
              refine D_callV (As := [vi _, vi _, vi _]) (d' := 1) (t_tadd hw (Nat.le_refl _) (tab4 (by assumption)) (by omega) (by omega) (by omega)) dX6_slot_86 v_X6_100 (fun h hc => ⟨_, hc.2.2.2.1 _ (tab4 (by assumption))⟩) rfl (Nat.le_of_ble_eq_true rfl) (by omega) (Nat.le_of_ble_eq_true rfl) ?_
              simp only [Option.toList, List.nil_append, List.cons_append]
              have hw6 : wf (c_tadd σ (72 + 11 * Int.toNat t) v b c).2 := w_tadd hw (tab4 (by assumption)) (by omega) (by omega) (by omega)
              have r_86 := r_tadd (t := 72 + 11 * Int.toNat t) (g := v) (u := b) (m := c) hw (tab4 (by assumption)) (by omega) (by omega) (by omega)
              refine C_iret dX6_slot_89 rfl ?_
              unfold dte; rw [c_slot, if_pos (by omega), if_pos c_16, if_neg (by rw [c_23]; decide), if_pos c_31, if_neg (by rw [c_49]; decide), if_neg (by rw [c_57]; decide)]; exact ⟨rfl, rfl⟩
            · refine C_iload_n dX6_slot_60 rfl ?_
              refine C_if_eq (tgt := 70) dX6_slot_61 (by decide) (by omega) (fun c_61 => ?_) (fun c_61 => ?_)
              · refine C_throw dX6_slot_70 dX6_slot_73 dX6_slot_74 dX6_slot_76 dX6_slot_79 t_X6_95_97 (by omega) (Nat.le_of_ble_eq_true rfl) rfl ?_
                unfold dte; rw [c_slot, if_pos (by omega), if_pos c_16, if_neg (by rw [c_23]; decide), if_pos c_31, if_neg (by rw [c_49]; decide), if_pos c_57, if_pos (by omega)]; exact ⟨rfl, rfl⟩
              · refine C_iload dX6_slot_64 rfl ?_
                refine C_iconst dX6_slot_66 ?_
                refine C_icmp_eq (tgt := 80) dX6_slot_67 (by decide) (by omega) (by omega) (fun c_67 => ?_) (fun c_67 => ?_)
                · refine C_aload dX6_slot_80 rfl ?_
                  refine C_iload_n dX6_slot_82 rfl ?_
                  refine C_iload_n dX6_slot_83 rfl ?_
                  refine C_iload dX6_slot_84 rfl ?_
                  refine D_callV (As := [vi _, vi _, vi _]) (d' := 1) (t_tadd hw (Nat.le_refl _) (tab4 (by assumption)) (by omega) (by omega) (by omega)) dX6_slot_86 v_X6_100 (fun h hc => ⟨_, hc.2.2.2.1 _ (tab4 (by assumption))⟩) rfl (Nat.le_of_ble_eq_true rfl) (by omega) (Nat.le_of_ble_eq_true rfl) ?_
                  simp only [Option.toList, List.nil_append, List.cons_append]
                  have hw9 : wf (c_tadd σ (72 + 11 * Int.toNat t) v b c).2 := w_tadd hw (tab4 (by assumption)) (by omega) (by omega) (by omega)
                  have r_86 := r_tadd (t := 72 + 11 * Int.toNat t) (g := v) (u := b) (m := c) hw (tab4 (by assumption)) (by omega) (by omega) (by omega)
                  refine C_iret dX6_slot_89 rfl ?_
                  unfold dte; rw [c_slot, if_pos (by omega), if_pos c_16, if_neg (by rw [c_23]; decide), if_pos c_31, if_neg (by rw [c_49]; decide), if_pos c_57, if_neg (by omega), if_pos (by omega)]; exact ⟨rfl, rfl⟩
                · refine C_throw dX6_slot_70 dX6_slot_73 dX6_slot_74 dX6_slot_76 dX6_slot_79 t_X6_95_97 (by omega) (Nat.le_of_ble_eq_true rfl) rfl ?_
                  unfold dte; rw [c_slot, if_pos (by omega), if_pos c_16, if_neg (by rw [c_23]; decide), if_pos c_31, if_neg (by rw [c_49]; decide), if_pos c_57, if_neg (by omega), if_neg (by omega)]; exact ⟨rfl, rfl⟩
        · refine C_throw dX6_slot_34 dX6_slot_37 dX6_slot_38 dX6_slot_40 dX6_slot_43 t_X6_81_83 (by omega) (Nat.le_of_ble_eq_true rfl) rfl ?_
          unfold dte; rw [c_slot, if_pos (by omega), if_pos c_16, if_neg (by rw [c_23]; decide), if_neg (by rw [c_31]; decide)]; exact ⟨rfl, rfl⟩
  · refine D_callV (As := [vi _]) (d' := 0) (t_tableOfN hw (by omega) c_2) dX6_slot_2 v_X6_67 (fun h hc => ⟨_, hc.2.2.2.2.2.2.2⟩) rfl (Nat.le_of_ble_eq_true rfl) (by omega) (Nat.le_of_ble_eq_true rfl) ?_
    simp only [Option.toList, List.nil_append, List.cons_append]
    refine C_astoreN dX6_slot_5 (by decide) rfl ?_
    simp only [List.set_cons_zero, List.set_cons_succ, jfin0, jfin1, jfin2, jfin3]
    refine C_aloadN dX6_slot_7 rfl ?_
    refine C_ifnullN (tgt := 34) dX6_slot_9 (by decide) ?_
    refine C_throw dX6_slot_34 dX6_slot_37 dX6_slot_38 dX6_slot_40 dX6_slot_43 t_X6_81_83 (by omega) (Nat.le_of_ble_eq_true rfl) rfl ?_
    unfold dte; rw [c_slot, if_neg (by omega)]; exact ⟨rfl, rfl⟩
theorem w_slot {σ : cS} {t : Int} {v : Int} {b : Int} {c : Int} (hw : wf σ) (ht : rg t) (hv : rg v) (hb : 0 ≤ b ∧ b ≤ 1) (hc : rg c) : wf (c_slot σ t v b c).2.2 := by
  unfold c_slot
  split
  · split
    · split
      · have b_16_1 := isTag_t (σ := _) (c := v) (by assumption)
        exact hw
      · split
        · split
          · have b_16_1 := isTag_t (σ := _) (c := v) (by assumption)
            have b_31_3 := isMost_t (σ := _) (c := c) (by assumption)
            exact hw
          · split
            · split
              · have b_16_1 := isTag_t (σ := _) (c := v) (by assumption)
                have b_31_3 := isMost_t (σ := _) (c := c) (by assumption)
                exact hw
              · split
                · have b_16_1 := isTag_t (σ := _) (c := v) (by assumption)
                  have b_31_3 := isMost_t (σ := _) (c := c) (by assumption)
                  have hw9 : wf (c_tadd σ (72 + 11 * Int.toNat t) v b c).2 := w_tadd hw (tab4 (by assumption)) (by omega) (by omega) (by omega)
                  have r_86 := r_tadd (t := 72 + 11 * Int.toNat t) (g := v) (u := b) (m := c) hw (tab4 (by assumption)) (by omega) (by omega) (by omega)
                  exact hw9
                · have b_16_1 := isTag_t (σ := _) (c := v) (by assumption)
                  have b_31_3 := isMost_t (σ := _) (c := c) (by assumption)
                  exact hw
            · have b_16_1 := isTag_t (σ := _) (c := v) (by assumption)
              have b_31_3 := isMost_t (σ := _) (c := c) (by assumption)
              have hw6 : wf (c_tadd σ (72 + 11 * Int.toNat t) v b c).2 := w_tadd hw (tab4 (by assumption)) (by omega) (by omega) (by omega)
              have r_86 := r_tadd (t := 72 + 11 * Int.toNat t) (g := v) (u := b) (m := c) hw (tab4 (by assumption)) (by omega) (by omega) (by omega)
              exact hw6
        · have b_16_1 := isTag_t (σ := _) (c := v) (by assumption)
          exact hw
    · exact hw
  · exact hw
def c_open (σ : cS) (t : Int) (b : Int) (c : Int) : Option String × Int × cS := (if 0 ≤ t ∧ t < 4 then (if (c_isMost σ c) = true then (if (c_tisFull σ (72 + 11 * Int.toNat t)) = true then (some "java/lang/IllegalStateException", 0, σ) else (if (c_isDeepest σ (72 + 11 * Int.toNat t)) = true then (some "java/lang/IllegalStateException", 0, σ) else (if (c_wantsTrigger σ (72 + 11 * Int.toNat t)) = true then (some "java/lang/IllegalStateException", 0, σ) else (none, (c_addGroup σ (72 + 11 * Int.toNat t) b c).1, (c_addGroup σ (72 + 11 * Int.toNat t) b c).2)))) else (some "java/lang/IllegalArgumentException", 0, σ)) else (some "java/lang/IllegalArgumentException", 0, σ))
theorem t_open {l : Launch} {G : jG} {d : Nat} {σ : cS} {t : Int} {b : Int} {c : Int} (hw : wf σ) (hd : 6 ≤ d) (ht : rg t) (hb : 0 ≤ b ∧ b ≤ 1) (hc : rg c) : CJ jCls jown l G (Yx mX6_open) d 1 6 0 [some (.ref 1), some (vi t), some (vi b), some (vi c), none] [] σ (dte (c_open σ t b c)) := by
  refine C_aload_n dX6_open_0 rfl ?_
  refine C_iload_n dX6_open_1 rfl ?_
  by_cases c_2 : 0 ≤ t ∧ t < 4
  · refine D_callV (As := [vi _]) (d' := 0) (t_tableOf hw c_2) dX6_open_2 v_X6_67 (fun h hc => ⟨_, hc.2.2.2.2.2.2.2⟩) rfl (Nat.le_of_ble_eq_true rfl) (by omega) (Nat.le_of_ble_eq_true rfl) ?_
    simp only [Option.toList, List.nil_append, List.cons_append]
    refine C_astore dX6_open_5 (by decide) rfl ?_
    simp only [List.set_cons_zero, List.set_cons_succ, jfin0, jfin1, jfin2, jfin3]
    refine C_aload dX6_open_7 rfl ?_
    refine C_ifnull dX6_open_9 ?_
    refine C_iload_n dX6_open_12 rfl ?_
    refine D_callS (As := [vi _]) (d' := 0) (t_isMost hw (Nat.le_refl _) (by omega)) dX6_open_13 s_X6_78 rfl (Nat.le_of_ble_eq_true rfl) (by omega) (Nat.le_of_ble_eq_true rfl) ?_
    simp only [Option.toList, List.nil_append, List.cons_append]
    refine C_if_neZ (tgt := 29) dX6_open_16 (by decide) (fun c_16 => ?_) (fun c_16 => ?_)
    · have b_16_1 := isMost_t (σ := _) (c := c) (by assumption)
      refine C_aload dX6_open_29 rfl ?_
      refine D_callV (As := []) (d' := 1) (t_tisFull hw (Nat.le_refl _) (tab4 (by assumption))) dX6_open_31 v_X6_88 (fun h hc => ⟨_, hc.2.2.2.1 _ (tab4 (by assumption))⟩) rfl (Nat.le_of_ble_eq_true rfl) (by omega) (Nat.le_of_ble_eq_true rfl) ?_
      simp only [Option.toList, List.nil_append, List.cons_append]
      refine C_if_neZ (tgt := 53) dX6_open_34 (by decide) (fun c_34 => ?_) (fun c_34 => ?_)
      · refine C_throw dX6_open_53 dX6_open_56 dX6_open_57 dX6_open_59 dX6_open_62 t_X6_95_109 (by omega) (Nat.le_of_ble_eq_true rfl) rfl ?_
        unfold dte; rw [c_open, if_pos (by omega), if_pos c_16, if_pos c_34]; exact ⟨rfl, rfl⟩
      · refine C_aload dX6_open_37 rfl ?_
        refine D_callV (As := []) (d' := 0) (t_isDeepest hw (Nat.le_refl _) (tab4 (by assumption))) dX6_open_39 v_X6_106 (fun h hc => ⟨_, hc.2.2.2.1 _ (tab4 (by assumption))⟩) rfl (Nat.le_of_ble_eq_true rfl) (by omega) (Nat.le_of_ble_eq_true rfl) ?_
        simp only [Option.toList, List.nil_append, List.cons_append]
        refine C_if_neZ (tgt := 53) dX6_open_42 (by decide) (fun c_42 => ?_) (fun c_42 => ?_)
        · refine C_throw dX6_open_53 dX6_open_56 dX6_open_57 dX6_open_59 dX6_open_62 t_X6_95_109 (by omega) (Nat.le_of_ble_eq_true rfl) rfl ?_
          unfold dte; rw [c_open, if_pos (by omega), if_pos c_16, if_neg (by rw [c_34]; decide), if_pos c_42]; exact ⟨rfl, rfl⟩
        · have b_42_3 := isDeepest_f (σ := σ) (t := (72 + 11 * Int.toNat t)) (by simp_all)
          refine C_aload dX6_open_45 rfl ?_
          refine D_callV (As := []) (d' := 1) (t_wantsTrigger hw (Nat.le_refl _) (tab4 (by assumption))) dX6_open_47 v_X6_92 (fun h hc => ⟨_, hc.2.2.2.1 _ (tab4 (by assumption))⟩) rfl (Nat.le_of_ble_eq_true rfl) (by omega) (Nat.le_of_ble_eq_true rfl) ?_
          simp only [Option.toList, List.nil_append, List.cons_append]
          refine C_if_eqZ (tgt := 63) dX6_open_50 (by decide) (fun c_50 => ?_) (fun c_50 => ?_)
          · refine C_aload dX6_open_63 rfl ?_
            refine C_iload_n dX6_open_65 rfl ?_
            refine C_iload_n dX6_open_66 rfl ?_
            refine D_callV (As := [vi _, vi _]) (d' := 2) (t_addGroup hw (Nat.le_refl _) (tab4 (by assumption)) (by omega) (by omega) (by omega)) dX6_open_67 v_X6_111 (fun h hc => ⟨_, hc.2.2.2.1 _ (tab4 (by assumption))⟩) rfl (Nat.le_of_ble_eq_true rfl) (by omega) (Nat.le_of_ble_eq_true rfl) ?_
            simp only [Option.toList, List.nil_append, List.cons_append]
            have hw5 : wf (c_addGroup σ (72 + 11 * Int.toNat t) b c).2 := w_addGroup hw (tab4 (by assumption)) (by omega) (by omega) (by omega)
            have r_67 := r_addGroup (t := 72 + 11 * Int.toNat t) (u := b) (m := c) hw (tab4 (by assumption)) (by omega) (by omega) (by omega)
            refine C_iret dX6_open_70 rfl ?_
            unfold dte; rw [c_open, if_pos (by omega), if_pos c_16, if_neg (by rw [c_34]; decide), if_neg (by rw [c_42]; decide), if_neg (by rw [c_50]; decide)]; exact ⟨rfl, rfl⟩
          · refine C_throw dX6_open_53 dX6_open_56 dX6_open_57 dX6_open_59 dX6_open_62 t_X6_95_109 (by omega) (Nat.le_of_ble_eq_true rfl) rfl ?_
            unfold dte; rw [c_open, if_pos (by omega), if_pos c_16, if_neg (by rw [c_34]; decide), if_neg (by rw [c_42]; decide), if_pos c_50]; exact ⟨rfl, rfl⟩
    · refine C_throw dX6_open_19 dX6_open_22 dX6_open_23 dX6_open_25 dX6_open_28 t_X6_81_104 (by omega) (Nat.le_of_ble_eq_true rfl) rfl ?_
      unfold dte; rw [c_open, if_pos (by omega), if_neg (by rw [c_16]; decide)]; exact ⟨rfl, rfl⟩
  · refine D_callV (As := [vi _]) (d' := 0) (t_tableOfN hw (by omega) c_2) dX6_open_2 v_X6_67 (fun h hc => ⟨_, hc.2.2.2.2.2.2.2⟩) rfl (Nat.le_of_ble_eq_true rfl) (by omega) (Nat.le_of_ble_eq_true rfl) ?_
    simp only [Option.toList, List.nil_append, List.cons_append]
    refine C_astoreN dX6_open_5 (by decide) rfl ?_
    simp only [List.set_cons_zero, List.set_cons_succ, jfin0, jfin1, jfin2, jfin3]
    refine C_aloadN dX6_open_7 rfl ?_
    refine C_ifnullN (tgt := 19) dX6_open_9 (by decide) ?_
    refine C_throw dX6_open_19 dX6_open_22 dX6_open_23 dX6_open_25 dX6_open_28 t_X6_81_104 (by omega) (Nat.le_of_ble_eq_true rfl) rfl ?_
    unfold dte; rw [c_open, if_neg (by omega)]; exact ⟨rfl, rfl⟩
theorem w_open {σ : cS} {t : Int} {b : Int} {c : Int} (hw : wf σ) (ht : rg t) (hb : 0 ≤ b ∧ b ≤ 1) (hc : rg c) : wf (c_open σ t b c).2.2 := by
  unfold c_open
  split
  · split
    · split
      · have b_16_1 := isMost_t (σ := _) (c := c) (by assumption)
        exact hw
      · split
        · have b_16_1 := isMost_t (σ := _) (c := c) (by assumption)
          exact hw
        · split
          · have b_16_1 := isMost_t (σ := _) (c := c) (by assumption)
            have b_42_3 := isDeepest_f (σ := σ) (t := (72 + 11 * Int.toNat t)) (by simp_all)
            exact hw
          · have b_16_1 := isMost_t (σ := _) (c := c) (by assumption)
            have b_42_3 := isDeepest_f (σ := σ) (t := (72 + 11 * Int.toNat t)) (by simp_all)
            have hw5 : wf (c_addGroup σ (72 + 11 * Int.toNat t) b c).2 := w_addGroup hw (tab4 (by assumption)) (by omega) (by omega) (by omega)
            have r_67 := r_addGroup (t := 72 + 11 * Int.toNat t) (u := b) (m := c) hw (tab4 (by assumption)) (by omega) (by omega) (by omega)
            exact hw5
    · exact hw
  · exact hw
def c_close (σ : cS) (t : Int) : Option String × Int × cS := (if 0 ≤ t ∧ t < 4 then (none, bz ((c_closeList σ (72 + 11 * Int.toNat t)).1), (c_closeList σ (72 + 11 * Int.toNat t)).2) else (some "java/lang/IllegalArgumentException", 0, σ))
theorem t_close {l : Launch} {G : jG} {d : Nat} {σ : cS} {t : Int} (hw : wf σ) (hd : 6 ≤ d) (ht : rg t) (hdp : ∀ q : Nat, kd q = 4 → 0 ≤ σ.2.1 q 5) : CJ jCls jown l G (Yx mX6_close) d 1 6 0 [some (.ref 1), some (vi t), none] [] σ (dte (c_close σ t)) := by
  have hdq : 0 ≤ t ∧ t < 4 → 0 ≤ σ.2.1 (72 + 11 * Int.toNat t) 5 := fun hq => hdp _ (by have e : t.toNat = 0 ∨ t.toNat = 1 ∨ t.toNat = 2 ∨ t.toNat = 3 := (by omega); rcases e with e | e | e | e <;> rw [e] <;> decide)
  refine C_aload_n dX6_close_0 rfl ?_
  refine C_iload_n dX6_close_1 rfl ?_
  by_cases c_2 : 0 ≤ t ∧ t < 4
  · refine D_callV (As := [vi _]) (d' := 0) (t_tableOf hw c_2) dX6_close_2 v_X6_67 (fun h hc => ⟨_, hc.2.2.2.2.2.2.2⟩) rfl (Nat.le_of_ble_eq_true rfl) (by omega) (Nat.le_of_ble_eq_true rfl) ?_
    simp only [Option.toList, List.nil_append, List.cons_append]
    refine C_astore_n dX6_close_5 (by decide) rfl ?_
    simp only [List.set_cons_zero, List.set_cons_succ, jfin0, jfin1, jfin2, jfin3]
    refine C_aload_n dX6_close_6 rfl ?_
    refine C_ifnonnull (tgt := 20) dX6_close_7 (by decide) ?_
    refine C_aload_n dX6_close_20 rfl ?_
    refine D_callV (As := []) (d' := 2) (t_closeList hw (Nat.le_refl _) (tab4 (by assumption)) (by omega)) dX6_close_21 v_X6_117 (fun h hc => ⟨_, hc.2.2.2.1 _ (tab4 (by assumption))⟩) rfl (Nat.le_of_ble_eq_true rfl) (by omega) (Nat.le_of_ble_eq_true rfl) ?_
    simp only [Option.toList, List.nil_append, List.cons_append]
    have hw1 : wf (c_closeList σ (72 + 11 * Int.toNat t)).2 := w_closeList hw (tab4 (by assumption)) (by omega)
    refine C_zret dX6_close_24 rfl (by first | exact Or.inl rfl | exact Or.inr rfl | exact bz_01 _) ?_
    unfold dte; rw [c_close, if_pos (by omega)]; exact ⟨rfl, rfl⟩
  · refine D_callV (As := [vi _]) (d' := 0) (t_tableOfN hw (by omega) c_2) dX6_close_2 v_X6_67 (fun h hc => ⟨_, hc.2.2.2.2.2.2.2⟩) rfl (Nat.le_of_ble_eq_true rfl) (by omega) (Nat.le_of_ble_eq_true rfl) ?_
    simp only [Option.toList, List.nil_append, List.cons_append]
    refine C_astore_nN dX6_close_5 (by decide) rfl ?_
    simp only [List.set_cons_zero, List.set_cons_succ, jfin0, jfin1, jfin2, jfin3]
    refine C_aload_nN dX6_close_6 rfl ?_
    refine C_ifnonnullN dX6_close_7 ?_
    refine C_throw dX6_close_10 dX6_close_13 dX6_close_14 dX6_close_16 dX6_close_19 t_X6_81_115 (by omega) (Nat.le_of_ble_eq_true rfl) rfl ?_
    unfold dte; rw [c_close, if_neg (by omega)]; exact ⟨rfl, rfl⟩
theorem w_close {σ : cS} {t : Int} (hw : wf σ) (ht : rg t) (hdp : ∀ q : Nat, kd q = 4 → 0 ≤ σ.2.1 q 5) : wf (c_close σ t).2.2 := by
  have hdq : 0 ≤ t ∧ t < 4 → 0 ≤ σ.2.1 (72 + 11 * Int.toNat t) 5 := fun hq => hdp _ (by have e : t.toNat = 0 ∨ t.toNat = 1 ∨ t.toNat = 2 ∨ t.toNat = 3 := (by omega); rcases e with e | e | e | e <;> rw [e] <;> decide)
  unfold c_close
  split
  · have hw1 : wf (c_closeList σ (72 + 11 * Int.toNat t)).2 := w_closeList hw (tab4 (by assumption)) (by omega)
    exact hw1
  · exact hw
def c_clear (σ : cS) (t : Int) : Option String × Int × cS := (if 0 ≤ t ∧ t < 4 then (if (c_isEmpty σ (72 + 11 * Int.toNat t)) = true then (none, 0, σ) else (none, 1, (c_tempty σ (72 + 11 * Int.toNat t)))) else (some "java/lang/IllegalArgumentException", 0, σ))
theorem t_clear {l : Launch} {G : jG} {d : Nat} {σ : cS} {t : Int} (hw : wf σ) (hd : 6 ≤ d) (ht : rg t) : CJ jCls jown l G (Yx mX6_clear) d 1 6 0 [some (.ref 1), some (vi t), none] [] σ (dte (c_clear σ t)) := by
  refine C_aload_n dX6_clear_0 rfl ?_
  refine C_iload_n dX6_clear_1 rfl ?_
  by_cases c_2 : 0 ≤ t ∧ t < 4
  · refine D_callV (As := [vi _]) (d' := 0) (t_tableOf hw c_2) dX6_clear_2 v_X6_67 (fun h hc => ⟨_, hc.2.2.2.2.2.2.2⟩) rfl (Nat.le_of_ble_eq_true rfl) (by omega) (Nat.le_of_ble_eq_true rfl) ?_
    simp only [Option.toList, List.nil_append, List.cons_append]
    refine C_astore_n dX6_clear_5 (by decide) rfl ?_
    simp only [List.set_cons_zero, List.set_cons_succ, jfin0, jfin1, jfin2, jfin3]
    refine C_aload_n dX6_clear_6 rfl ?_
    refine C_ifnonnull (tgt := 20) dX6_clear_7 (by decide) ?_
    refine C_aload_n dX6_clear_20 rfl ?_
    refine D_callV (As := []) (d' := 1) (t_isEmpty hw (Nat.le_refl _) (tab4 (by assumption))) dX6_clear_21 v_X6_120 (fun h hc => ⟨_, hc.2.2.2.1 _ (tab4 (by assumption))⟩) rfl (Nat.le_of_ble_eq_true rfl) (by omega) (Nat.le_of_ble_eq_true rfl) ?_
    simp only [Option.toList, List.nil_append, List.cons_append]
    refine C_if_eqZ (tgt := 29) dX6_clear_24 (by decide) (fun c_24 => ?_) (fun c_24 => ?_)
    · refine C_aload_n dX6_clear_29 rfl ?_
      refine D_callV (As := []) (d' := 1) (t_tempty hw (Nat.le_refl _) (tab4 (by assumption))) dX6_clear_30 v_X6_123 (fun h hc => ⟨_, hc.2.2.2.1 _ (tab4 (by assumption))⟩) rfl (Nat.le_of_ble_eq_true rfl) (by omega) (Nat.le_of_ble_eq_true rfl) ?_
      simp only [Option.toList, List.nil_append, List.cons_append]
      have hw2 : wf (c_tempty σ (72 + 11 * Int.toNat t)) := w_tempty hw (tab4 (by assumption))
      refine C_iconst dX6_clear_33 ?_
      refine C_zret dX6_clear_34 rfl (by first | exact Or.inl rfl | exact Or.inr rfl | exact bz_01 _) ?_
      unfold dte; rw [c_clear, if_pos (by omega), if_neg (by rw [c_24]; decide)]; exact ⟨rfl, rfl⟩
    · refine C_iconst dX6_clear_27 ?_
      refine C_zret dX6_clear_28 rfl (by first | exact Or.inl rfl | exact Or.inr rfl | exact bz_01 _) ?_
      unfold dte; rw [c_clear, if_pos (by omega), if_pos c_24]; exact ⟨rfl, rfl⟩
  · refine D_callV (As := [vi _]) (d' := 0) (t_tableOfN hw (by omega) c_2) dX6_clear_2 v_X6_67 (fun h hc => ⟨_, hc.2.2.2.2.2.2.2⟩) rfl (Nat.le_of_ble_eq_true rfl) (by omega) (Nat.le_of_ble_eq_true rfl) ?_
    simp only [Option.toList, List.nil_append, List.cons_append]
    refine C_astore_nN dX6_clear_5 (by decide) rfl ?_
    simp only [List.set_cons_zero, List.set_cons_succ, jfin0, jfin1, jfin2, jfin3]
    refine C_aload_nN dX6_clear_6 rfl ?_
    refine C_ifnonnullN dX6_clear_7 ?_
    refine C_throw dX6_clear_10 dX6_clear_13 dX6_clear_14 dX6_clear_16 dX6_clear_19 t_X6_81_115 (by omega) (Nat.le_of_ble_eq_true rfl) rfl ?_
    unfold dte; rw [c_clear, if_neg (by omega)]; exact ⟨rfl, rfl⟩
theorem w_clear {σ : cS} {t : Int} (hw : wf σ) (ht : rg t) : wf (c_clear σ t).2.2 := by
  unfold c_clear
  split
  · split
    · exact hw
    · have hw2 : wf (c_tempty σ (72 + 11 * Int.toNat t)) := w_tempty hw (tab4 (by assumption))
      exact hw2
  · exact hw
def c_interchange (σ : cS) (a : Int) : Option String × Int × cS := (if σ.2.1 1 6 = 0 then (some "java/lang/IllegalStateException", 0, σ) else (if a = 0 then (none, (c_segmentCount σ (σ.2.2 + 1)), σ) else (if a = 1 then (none, (c_messageCount σ σ.2.2), σ) else (if a = 2 then (none, (c_groupCount σ σ.2.2), σ) else (if a = 3 then (none, (c_ecode σ σ.2.2), σ) else (none, (-1), σ))))))
theorem t_interchange {l : Launch} {G : jG} {d : Nat} {σ : cS} {a : Int} (hw : wf σ) (hd : 7 ≤ d) (ha : rg a) : CJ jCls jown l G (Yx mX6_interchange) d 1 6 0 [some (.ref 1), some (vi a)] [] σ (dte (c_interchange σ a)) := by
  refine C_aload_n dX6_interchange_0 rfl ?_
  by_cases c_1 : σ.2.1 1 6 = 0
  · refine D_callVX (bc := 0) (bs := 0) (As := []) (d' := 6) (t_need0 hw (Nat.le_refl _) c_1) dX6_interchange_1 v_X6_164 (fun h hc => ⟨_, hc.2.2.2.2.2.2.2⟩) rfl (Nat.le_of_ble_eq_true rfl) (by omega) (Nat.le_of_ble_eq_true rfl) rfl ?_
    unfold dte; rw [c_interchange, if_pos (by omega)]; exact ⟨rfl, rfl⟩
  · refine D_callV (As := []) (d' := 6) (t_need1 hw c_1) dX6_interchange_1 v_X6_164 (fun h hc => ⟨_, hc.2.2.2.2.2.2.2⟩) rfl (Nat.le_of_ble_eq_true rfl) (by omega) (Nat.le_of_ble_eq_true rfl) ?_
    simp only [Option.toList, List.nil_append, List.cons_append]
    refine C_iload_n dX6_interchange_4 rfl ?_
    by_cases c_5_0 : a = 0
    · refine C_tableIn (off := 31) (tgt := 36) dX6_interchange_5 (by omega) (by omega) (by omega) (by rw [c_5_0]; rfl) (by decide) ?_
      refine C_aload_n dX6_interchange_36 rfl ?_
      refine C_get dX6_interchange_37 f_X6_37 (fun h hc => ⟨_, hc.2.2.2.2.2.2.2, rfl⟩) ?_
      refine C_get dX6_interchange_40 f_X6_124 (fun h hc => ⟨_, hc.2.2.1 _ hw.kept, rfl⟩) ?_
      refine D_callV (As := []) (d' := 1) (t_segmentCount hw (Nat.le_refl _) (kE1 hw.kept)) dX6_interchange_43 v_X6_167 (fun h hc => ⟨_, hc.2.1 _ (kE1 hw.kept)⟩) rfl (Nat.le_of_ble_eq_true rfl) (by omega) (Nat.le_of_ble_eq_true rfl) ?_
      simp only [Option.toList, List.nil_append, List.cons_append]
      have r_43 := r_segmentCount (p := σ.2.2 + 1) hw (kE1 hw.kept)
      refine C_iret dX6_interchange_46 rfl ?_
      unfold dte; rw [c_interchange, if_neg (by omega), if_pos (by omega)]; exact ⟨rfl, rfl⟩
    by_cases c_5_1 : a = 1
    · refine C_tableIn (off := 42) (tgt := 47) dX6_interchange_5 (by omega) (by omega) (by omega) (by rw [c_5_1]; rfl) (by decide) ?_
      refine C_aload_n dX6_interchange_47 rfl ?_
      refine C_get dX6_interchange_48 f_X6_37 (fun h hc => ⟨_, hc.2.2.2.2.2.2.2, rfl⟩) ?_
      refine D_callV (As := []) (d' := 1) (t_messageCount hw (Nat.le_refl _) hw.kept) dX6_interchange_51 v_X6_145 (fun h hc => ⟨_, hc.2.2.1 _ hw.kept⟩) rfl (Nat.le_of_ble_eq_true rfl) (by omega) (Nat.le_of_ble_eq_true rfl) ?_
      simp only [Option.toList, List.nil_append, List.cons_append]
      have r_51 := r_messageCount (e := σ.2.2) hw hw.kept
      refine C_iret dX6_interchange_54 rfl ?_
      unfold dte; rw [c_interchange, if_neg (by omega), if_neg (by omega), if_pos (by omega)]; exact ⟨rfl, rfl⟩
    by_cases c_5_2 : a = 2
    · refine C_tableIn (off := 50) (tgt := 55) dX6_interchange_5 (by omega) (by omega) (by omega) (by rw [c_5_2]; rfl) (by decide) ?_
      refine C_aload_n dX6_interchange_55 rfl ?_
      refine C_get dX6_interchange_56 f_X6_37 (fun h hc => ⟨_, hc.2.2.2.2.2.2.2, rfl⟩) ?_
      refine D_callV (As := []) (d' := 1) (t_groupCount hw (Nat.le_refl _) hw.kept) dX6_interchange_59 v_X6_172 (fun h hc => ⟨_, hc.2.2.1 _ hw.kept⟩) rfl (Nat.le_of_ble_eq_true rfl) (by omega) (Nat.le_of_ble_eq_true rfl) ?_
      simp only [Option.toList, List.nil_append, List.cons_append]
      have r_59 := r_groupCount (e := σ.2.2) hw hw.kept
      refine C_iret dX6_interchange_62 rfl ?_
      unfold dte; rw [c_interchange, if_neg (by omega), if_neg (by omega), if_neg (by omega), if_pos (by omega)]; exact ⟨rfl, rfl⟩
    by_cases c_5_3 : a = 3
    · refine C_tableIn (off := 58) (tgt := 63) dX6_interchange_5 (by omega) (by omega) (by omega) (by rw [c_5_3]; rfl) (by decide) ?_
      refine C_aload_n dX6_interchange_63 rfl ?_
      refine C_get dX6_interchange_64 f_X6_37 (fun h hc => ⟨_, hc.2.2.2.2.2.2.2, rfl⟩) ?_
      refine D_callV (As := []) (d' := 0) (t_ecode hw (Nat.le_refl _) hw.kept) dX6_interchange_67 v_X6_175 (fun h hc => ⟨_, hc.2.2.1 _ hw.kept⟩) rfl (Nat.le_of_ble_eq_true rfl) (by omega) (Nat.le_of_ble_eq_true rfl) ?_
      simp only [Option.toList, List.nil_append, List.cons_append]
      have r_67 := r_ecode (e := σ.2.2) hw hw.kept
      refine C_iret dX6_interchange_70 rfl ?_
      unfold dte; rw [c_interchange, if_neg (by omega), if_neg (by omega), if_neg (by omega), if_neg (by omega), if_pos (by omega)]; exact ⟨rfl, rfl⟩
    refine C_tableOut (tgt := 71) dX6_interchange_5 (by omega) (by omega) (by decide) ?_
    refine C_iconst dX6_interchange_71 ?_
    refine C_iret dX6_interchange_72 rfl ?_
    unfold dte; rw [c_interchange, if_neg (by omega), if_neg (by omega), if_neg (by omega), if_neg (by omega), if_neg (by omega)]; exact ⟨rfl, rfl⟩
theorem w_interchange {σ : cS} {a : Int} (hw : wf σ) (ha : rg a) : wf (c_interchange σ a).2.2 := by
  unfold c_interchange
  split
  · exact hw
  · split
    · have r_43 := r_segmentCount (p := σ.2.2 + 1) hw (kE1 hw.kept)
      exact hw
    · split
      · have r_51 := r_messageCount (e := σ.2.2) hw hw.kept
        exact hw
      · split
        · have r_59 := r_groupCount (e := σ.2.2) hw hw.kept
          exact hw
        · split
          · have r_67 := r_ecode (e := σ.2.2) hw hw.kept
            exact hw
          · exact hw
def c_message (σ : cS) (j : Int) (x : Int) : Option String × Int × cS := (if σ.2.1 1 6 = 0 then (some "java/lang/IllegalStateException", 0, σ) else (none, (c_ofMessage σ σ.2.2 j x), σ))
theorem t_message {l : Launch} {G : jG} {d : Nat} {σ : cS} {j : Int} {x : Int} (hw : wf σ) (hd : 7 ≤ d) (hj : rg j) (hx : rg x) : CJ jCls jown l G (Yx mX6_message) d 1 6 0 [some (.ref 1), some (vi j), some (vi x)] [] σ (dte (c_message σ j x)) := by
  refine C_aload_n dX6_message_0 rfl ?_
  by_cases c_1 : σ.2.1 1 6 = 0
  · refine D_callVX (bc := 0) (bs := 0) (As := []) (d' := 6) (t_need0 hw (Nat.le_refl _) c_1) dX6_message_1 v_X6_164 (fun h hc => ⟨_, hc.2.2.2.2.2.2.2⟩) rfl (Nat.le_of_ble_eq_true rfl) (by omega) (Nat.le_of_ble_eq_true rfl) rfl ?_
    unfold dte; rw [c_message, if_pos (by omega)]; exact ⟨rfl, rfl⟩
  · refine D_callV (As := []) (d' := 6) (t_need1 hw c_1) dX6_message_1 v_X6_164 (fun h hc => ⟨_, hc.2.2.2.2.2.2.2⟩) rfl (Nat.le_of_ble_eq_true rfl) (by omega) (Nat.le_of_ble_eq_true rfl) ?_
    simp only [Option.toList, List.nil_append, List.cons_append]
    refine C_aload_n dX6_message_4 rfl ?_
    refine C_get dX6_message_5 f_X6_37 (fun h hc => ⟨_, hc.2.2.2.2.2.2.2, rfl⟩) ?_
    refine C_iload_n dX6_message_8 rfl ?_
    refine C_iload_n dX6_message_9 rfl ?_
    refine D_callV (As := [vi _, vi _]) (d' := 1) (t_ofMessage hw (Nat.le_refl _) hw.kept (by omega) (by omega)) dX6_message_10 v_X6_178 (fun h hc => ⟨_, hc.2.2.1 _ hw.kept⟩) rfl (Nat.le_of_ble_eq_true rfl) (by omega) (Nat.le_of_ble_eq_true rfl) ?_
    simp only [Option.toList, List.nil_append, List.cons_append]
    have r_10 := r_ofMessage (e := σ.2.2) (j := j) (x := x) hw hw.kept (by omega) (by omega)
    refine C_iret dX6_message_13 rfl ?_
    unfold dte; rw [c_message, if_neg (by omega)]; exact ⟨rfl, rfl⟩
theorem w_message {σ : cS} {j : Int} {x : Int} (hw : wf σ) (hj : rg j) (hx : rg x) : wf (c_message σ j x).2.2 := by
  unfold c_message
  split
  · exact hw
  · have r_10 := r_ofMessage (e := σ.2.2) (j := j) (x := x) hw hw.kept (by omega) (by omega)
    exact hw
def c_group (σ : cS) (g : Int) : Option String × Int × cS := (if σ.2.1 1 6 = 0 then (some "java/lang/IllegalStateException", 0, σ) else (none, (c_codeOfGroup σ σ.2.2 g), σ))
theorem t_group {l : Launch} {G : jG} {d : Nat} {σ : cS} {g : Int} (hw : wf σ) (hd : 7 ≤ d) (hg : rg g) : CJ jCls jown l G (Yx mX6_group) d 1 6 0 [some (.ref 1), some (vi g)] [] σ (dte (c_group σ g)) := by
  refine C_aload_n dX6_group_0 rfl ?_
  by_cases c_1 : σ.2.1 1 6 = 0
  · refine D_callVX (bc := 0) (bs := 0) (As := []) (d' := 6) (t_need0 hw (Nat.le_refl _) c_1) dX6_group_1 v_X6_164 (fun h hc => ⟨_, hc.2.2.2.2.2.2.2⟩) rfl (Nat.le_of_ble_eq_true rfl) (by omega) (Nat.le_of_ble_eq_true rfl) rfl ?_
    unfold dte; rw [c_group, if_pos (by omega)]; exact ⟨rfl, rfl⟩
  · refine D_callV (As := []) (d' := 6) (t_need1 hw c_1) dX6_group_1 v_X6_164 (fun h hc => ⟨_, hc.2.2.2.2.2.2.2⟩) rfl (Nat.le_of_ble_eq_true rfl) (by omega) (Nat.le_of_ble_eq_true rfl) ?_
    simp only [Option.toList, List.nil_append, List.cons_append]
    refine C_aload_n dX6_group_4 rfl ?_
    refine C_get dX6_group_5 f_X6_37 (fun h hc => ⟨_, hc.2.2.2.2.2.2.2, rfl⟩) ?_
    refine C_iload_n dX6_group_8 rfl ?_
    refine D_callV (As := [vi _]) (d' := 1) (t_codeOfGroup hw (Nat.le_refl _) hw.kept (by omega)) dX6_group_9 v_X6_182 (fun h hc => ⟨_, hc.2.2.1 _ hw.kept⟩) rfl (Nat.le_of_ble_eq_true rfl) (by omega) (Nat.le_of_ble_eq_true rfl) ?_
    simp only [Option.toList, List.nil_append, List.cons_append]
    have r_9 := r_codeOfGroup (e := σ.2.2) (g := g) hw hw.kept (by omega)
    refine C_iret dX6_group_12 rfl ?_
    unfold dte; rw [c_group, if_neg (by omega)]; exact ⟨rfl, rfl⟩
theorem w_group {σ : cS} {g : Int} (hw : wf σ) (hg : rg g) : wf (c_group σ g).2.2 := by
  unfold c_group
  split
  · exact hw
  · have r_9 := r_codeOfGroup (e := σ.2.2) (g := g) hw hw.kept (by omega)
    exact hw
def c_segment (σ : cS) (s : Int) (u : Int) (c : Int) (i : Int) : Option String × Int × cS := (if σ.2.1 1 6 = 0 then (some "java/lang/IllegalStateException", 0, σ) else (none, (c_look σ (σ.2.2 + 1) s u c i), σ))
theorem t_segment {l : Launch} {G : jG} {d : Nat} {σ : cS} {s : Int} {u : Int} {c : Int} {i : Int} (hw : wf σ) (hd : 7 ≤ d) (hs : rg s) (hu : rg u) (hc : rg c) (hi : rg i) : CJ jCls jown l G (Yx mX6_segment) d 1 6 0 [some (.ref 1), some (vi s), some (vi u), some (vi c), some (vi i)] [] σ (dte (c_segment σ s u c i)) := by
  refine C_aload_n dX6_segment_0 rfl ?_
  by_cases c_1 : σ.2.1 1 6 = 0
  · refine D_callVX (bc := 0) (bs := 0) (As := []) (d' := 6) (t_need0 hw (Nat.le_refl _) c_1) dX6_segment_1 v_X6_164 (fun h hc => ⟨_, hc.2.2.2.2.2.2.2⟩) rfl (Nat.le_of_ble_eq_true rfl) (by omega) (Nat.le_of_ble_eq_true rfl) rfl ?_
    unfold dte; rw [c_segment, if_pos (by omega)]; exact ⟨rfl, rfl⟩
  · refine D_callV (As := []) (d' := 6) (t_need1 hw c_1) dX6_segment_1 v_X6_164 (fun h hc => ⟨_, hc.2.2.2.2.2.2.2⟩) rfl (Nat.le_of_ble_eq_true rfl) (by omega) (Nat.le_of_ble_eq_true rfl) ?_
    simp only [Option.toList, List.nil_append, List.cons_append]
    refine C_aload_n dX6_segment_4 rfl ?_
    refine C_get dX6_segment_5 f_X6_37 (fun h hc => ⟨_, hc.2.2.2.2.2.2.2, rfl⟩) ?_
    refine C_get dX6_segment_8 f_X6_124 (fun h hc => ⟨_, hc.2.2.1 _ hw.kept, rfl⟩) ?_
    refine C_iload_n dX6_segment_11 rfl ?_
    refine C_iload_n dX6_segment_12 rfl ?_
    refine C_iload_n dX6_segment_13 rfl ?_
    refine C_iload dX6_segment_14 rfl ?_
    refine D_callV (As := [vi _, vi _, vi _, vi _]) (d' := 3) (t_look hw (Nat.le_refl _) (kE1 hw.kept) (by omega) (by omega) (by omega) (by omega)) dX6_segment_16 v_X6_185 (fun h hc => ⟨_, hc.2.1 _ (kE1 hw.kept)⟩) rfl (Nat.le_of_ble_eq_true rfl) (by omega) (Nat.le_of_ble_eq_true rfl) ?_
    simp only [Option.toList, List.nil_append, List.cons_append]
    refine C_iret dX6_segment_19 rfl ?_
    unfold dte; rw [c_segment, if_neg (by omega)]; exact ⟨rfl, rfl⟩
theorem w_segment {σ : cS} {s : Int} {u : Int} {c : Int} {i : Int} (hw : wf σ) (hs : rg s) (hu : rg u) (hc : rg c) (hi : rg i) : wf (c_segment σ s u c i).2.2 := by
  unfold c_segment
  split
  · exact hw
  · exact hw
def c_print (σ : cS) (i : Int) : Option String × Int × cS := (if σ.2.1 1 6 = 0 then (some "java/lang/IllegalStateException", 0, σ) else (none, (c_qlook σ 6 i), σ))
theorem t_print {l : Launch} {G : jG} {d : Nat} {σ : cS} {i : Int} (hw : wf σ) (hd : 7 ≤ d) (hi : rg i) : CJ jCls jown l G (Yx mX6_print) d 1 6 0 [some (.ref 1), some (vi i)] [] σ (dte (c_print σ i)) := by
  refine C_aload_n dX6_print_0 rfl ?_
  by_cases c_1 : σ.2.1 1 6 = 0
  · refine D_callVX (bc := 0) (bs := 0) (As := []) (d' := 6) (t_need0 hw (Nat.le_refl _) c_1) dX6_print_1 v_X6_164 (fun h hc => ⟨_, hc.2.2.2.2.2.2.2⟩) rfl (Nat.le_of_ble_eq_true rfl) (by omega) (Nat.le_of_ble_eq_true rfl) rfl ?_
    unfold dte; rw [c_print, if_pos (by omega)]; exact ⟨rfl, rfl⟩
  · refine D_callV (As := []) (d' := 6) (t_need1 hw c_1) dX6_print_1 v_X6_164 (fun h hc => ⟨_, hc.2.2.2.2.2.2.2⟩) rfl (Nat.le_of_ble_eq_true rfl) (by omega) (Nat.le_of_ble_eq_true rfl) ?_
    simp only [Option.toList, List.nil_append, List.cons_append]
    refine C_aload_n dX6_print_4 rfl ?_
    refine C_get dX6_print_5 f_X6_27 (fun h hc => ⟨_, hc.2.2.2.2.2.2.2, rfl⟩) ?_
    refine C_iload_n dX6_print_8 rfl ?_
    refine D_callV (As := [vi _]) (d' := 1) (t_qlook hw (Nat.le_refl _) kd6 (by omega)) dX6_print_9 v_X6_189 (fun h hc => ⟨_, hc.2.2.2.2.2.1 _ kd6⟩) rfl (Nat.le_of_ble_eq_true rfl) (by omega) (Nat.le_of_ble_eq_true rfl) ?_
    simp only [Option.toList, List.nil_append, List.cons_append]
    have r_9 := r_qlook (q := 6) (i := i) hw kd6 (by omega)
    refine C_iret dX6_print_12 rfl ?_
    unfold dte; rw [c_print, if_neg (by omega)]; exact ⟨rfl, rfl⟩
theorem w_print {σ : cS} {i : Int} (hw : wf σ) (hi : rg i) : wf (c_print σ i).2.2 := by
  unfold c_print
  split
  · exact hw
  · have r_9 := r_qlook (q := 6) (i := i) hw kd6 (by omega)
    exact hw
def c_report (σ : cS) (i : Int) : Option String × Int × cS := (if σ.2.1 1 6 = 0 then (some "java/lang/IllegalStateException", 0, σ) else (none, (c_qlook σ 9 i), σ))
theorem t_report {l : Launch} {G : jG} {d : Nat} {σ : cS} {i : Int} (hw : wf σ) (hd : 7 ≤ d) (hi : rg i) : CJ jCls jown l G (Yx mX6_report) d 1 6 0 [some (.ref 1), some (vi i)] [] σ (dte (c_report σ i)) := by
  refine C_aload_n dX6_report_0 rfl ?_
  by_cases c_1 : σ.2.1 1 6 = 0
  · refine D_callVX (bc := 0) (bs := 0) (As := []) (d' := 6) (t_need0 hw (Nat.le_refl _) c_1) dX6_report_1 v_X6_164 (fun h hc => ⟨_, hc.2.2.2.2.2.2.2⟩) rfl (Nat.le_of_ble_eq_true rfl) (by omega) (Nat.le_of_ble_eq_true rfl) rfl ?_
    unfold dte; rw [c_report, if_pos (by omega)]; exact ⟨rfl, rfl⟩
  · refine D_callV (As := []) (d' := 6) (t_need1 hw c_1) dX6_report_1 v_X6_164 (fun h hc => ⟨_, hc.2.2.2.2.2.2.2⟩) rfl (Nat.le_of_ble_eq_true rfl) (by omega) (Nat.le_of_ble_eq_true rfl) ?_
    simp only [Option.toList, List.nil_append, List.cons_append]
    refine C_aload_n dX6_report_4 rfl ?_
    refine C_get dX6_report_5 f_X6_31 (fun h hc => ⟨_, hc.2.2.2.2.2.2.2, rfl⟩) ?_
    refine C_iload_n dX6_report_8 rfl ?_
    refine D_callV (As := [vi _]) (d' := 1) (t_qlook hw (Nat.le_refl _) kd9 (by omega)) dX6_report_9 v_X6_189 (fun h hc => ⟨_, hc.2.2.2.2.2.1 _ kd9⟩) rfl (Nat.le_of_ble_eq_true rfl) (by omega) (Nat.le_of_ble_eq_true rfl) ?_
    simp only [Option.toList, List.nil_append, List.cons_append]
    have r_9 := r_qlook (q := 9) (i := i) hw kd9 (by omega)
    refine C_iret dX6_report_12 rfl ?_
    unfold dte; rw [c_report, if_neg (by omega)]; exact ⟨rfl, rfl⟩
theorem w_report {σ : cS} {i : Int} (hw : wf σ) (hi : rg i) : wf (c_report σ i).2.2 := by
  unfold c_report
  split
  · exact hw
  · have r_9 := r_qlook (q := 9) (i := i) hw kd9 (by omega)
    exact hw
