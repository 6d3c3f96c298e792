theorem iz_tdiv {a b : Int} (ha : rg a) (hb : rg b) : Int32.ofInt a / Int32.ofInt b = Int32.ofInt (a.tdiv b) := by
  have ha : rg a := ha
  have hb : rg b := hb
  have e1 : Int32.minValue.toInt = -2147483648 := by decide
  have e2 : Int32.maxValue.toInt = 2147483647 := by decide
  exact (Int32.ofInt_tdiv (by rw [e1]; omega) (by rw [e2]; omega) (by rw [e1]; omega) (by rw [e2]; omega)).symm
theorem tm10 (a : Int) : -10 < Int.tmod a 10 ∧ Int.tmod a 10 < 10 := by
  rcases Int.lt_or_le a 0 with h | h
  · have e : Int.tmod a 10 = - ((-a) % 10) := by
      rw [← Int.tmod_eq_emod_of_nonneg (by omega), Int.neg_tmod, Int.neg_neg]
    omega
  · rw [Int.tmod_eq_emod_of_nonneg h]; omega
section CS10
variable {S : Type} {inv : jH → S → Prop} {own : Nat → Prop} {l : Launch} {G : jG} {Y : jY} {d bc bs pc : Nat} {ls : List (Option Value)} {st : List Value} {σ : S} {P : jO → S → Prop}
theorem C_rem10 {a : Int} (hd : decode Y.1.2.1 pc = .ok (.irem, 1)) (ha : rg a) (k : CJ inv own l G Y d bc bs (pc + 1) ls (vi (Int.tmod a 10) :: st) σ P) : CJ inv own l G Y d bc bs pc ls (vi 10 :: vi a :: st) σ P := fun n h0 h hi hf => J_irem hd (by decide) (by
  rw [iz_tdiv ha ⟨by decide, by decide⟩, iz_mul, iz_sub]
  have e : a - a.tdiv 10 * 10 = Int.tmod a 10 := by have := Int.tmod_add_mul_tdiv a 10; omega
  rw [e]; exact k n h0 h hi hf)
end CS10
def c_qlook (σ : cS) (q : Nat) (i : Int) : Int := (if i = (-1) then (σ.1 (q + 1)).length else (rat (σ.1 (q + 1)) i))
theorem t_qlook {l : Launch} {G : jG} {d : Nat} {σ : cS} {q : Nat} {i : Int} (hw : wf σ) (hd : 1 ≤ d) (hq : kd q = 1) (hi : rg i) : CJ jCls jown l G (Yx mX1_look) d 0 0 0 [some (.ref q), some (vi i)] [] σ (det (some (vi (c_qlook σ q i))) σ) := by
  refine C_iload_n dX1_look_0 rfl ?_
  refine C_iconst dX1_look_1 ?_
  refine C_icmp_ne (tgt := 15) dX1_look_2 (by decide) (by omega) (by omega) (fun c_2 => ?_) (fun c_2 => ?_)
  · refine C_aload_n dX1_look_15 rfl ?_
    refine C_get dX1_look_16 f_X1_14 (fun h hc => ⟨_, hc.2.2.2.2.2.1 _ hq, rfl⟩) ?_
    refine C_iload_n dX1_look_19 rfl ?_
    refine D_callV (As := [vi _]) (d' := 0) (row_at hw (kQ1 hq) (by omega)) dX1_look_20 v_X1_24 (fun h hc => ⟨_, (hc.1 _ (kQ1 hq)).1⟩) rfl (Nat.le_of_ble_eq_true rfl) (by omega) (Nat.le_of_ble_eq_true rfl) ?_
    simp only [Option.toList, List.nil_append, List.cons_append]
    have r_20 := hw.ra2 (kQ1 hq) i
    refine C_iret dX1_look_23 rfl ?_
    unfold det; rw [c_qlook, if_neg (by omega)]; exact ⟨rfl, rfl⟩
  · refine C_aload_n dX1_look_5 rfl ?_
    refine C_get dX1_look_6 f_X1_14 (fun h hc => ⟨_, hc.2.2.2.2.2.1 _ hq, rfl⟩) ?_
    refine D_callV (As := []) (d' := 0) (row_size hw (kQ1 hq)) dX1_look_9 v_X1_20 (fun h hc => ⟨_, (hc.1 _ (kQ1 hq)).1⟩) rfl (Nat.le_of_ble_eq_true rfl) (by omega) (Nat.le_of_ble_eq_true rfl) ?_
    simp only [Option.toList, List.nil_append, List.cons_append]
    have r_9 := hw.len (kQ1 hq)
    refine C_goto (tgt := 23) dX1_look_12 (by decide) ?_
    refine C_iret dX1_look_23 rfl ?_
    unfold det; rw [c_qlook, if_pos (by omega)]; exact ⟨rfl, rfl⟩
theorem r_qlook {σ : cS} {q : Nat} {i : Int} (hw : wf σ) (hq : kd q = 1) (hi : rg i) : -3000 ≤ (c_qlook σ q i) ∧ (c_qlook σ q i) < 100000000 := by
  unfold c_qlook
  split
  · have r_9 := hw.len (kQ1 hq)
    omega
  · have r_20 := hw.ra2 (kQ1 hq) i
    omega
def c_putTag (σ : cS) (q : Nat) (t : Int) : cS := (cadd (cadd (cadd σ (q + 1) ((t % 4294967296 / 65536) % 256)) (q + 1) ((t % 4294967296 / 256) % 256)) (q + 1) (t % 256))
theorem t_putTag {l : Launch} {G : jG} {d : Nat} {σ : cS} {q : Nat} {t : Int} (hw : wf σ) (hd : 1 ≤ d) (hq : kd q = 1) (ht : rg t) : CJ jCls jown l G (Yx mX1_putTag) d 0 0 0 [some (.ref q), some (vi t)] [] σ (det none (c_putTag σ q t)) := by
  refine C_aload_n dX1_putTag_0 rfl ?_
  refine C_get dX1_putTag_1 f_X1_14 (fun h hc => ⟨_, hc.2.2.2.2.2.1 _ hq, rfl⟩) ?_
  refine C_iload_n dX1_putTag_4 rfl ?_
  refine C_bipush dX1_putTag_5 (by decide) ?_
  refine C_ushr16 dX1_putTag_7 ?_
  refine C_sipush dX1_putTag_8 (by decide) ?_
  refine C_and255 dX1_putTag_11 ?_
  refine D_callV (As := [vi _]) (d' := 0) (row_add hw (kQ1 hq) (by omega)) dX1_putTag_12 v_X1_48 (fun h hc => ⟨_, (hc.1 _ (kQ1 hq)).1⟩) rfl (Nat.le_of_ble_eq_true rfl) (by omega) (Nat.le_of_ble_eq_true rfl) ?_
  simp only [Option.toList, List.nil_append, List.cons_append]
  have hw1 : wf (cadd σ (q + 1) ((t % 4294967296 / 65536) % 256)) := wf_add hw (by omega)
  refine C_aload_n dX1_putTag_15 rfl ?_
  refine C_get dX1_putTag_16 f_X1_14 (fun h hc => ⟨_, hc.2.2.2.2.2.1 _ hq, rfl⟩) ?_
  refine C_iload_n dX1_putTag_19 rfl ?_
  refine C_bipush dX1_putTag_20 (by decide) ?_
  refine C_ushr8 dX1_putTag_22 ?_
  refine C_sipush dX1_putTag_23 (by decide) ?_
  refine C_and255 dX1_putTag_26 ?_
  refine D_callV (As := [vi _]) (d' := 0) (row_add hw1 (kQ1 hq) (by omega)) dX1_putTag_27 v_X1_48 (fun h hc => ⟨_, (hc.1 _ (kQ1 hq)).1⟩) rfl (Nat.le_of_ble_eq_true rfl) (by omega) (Nat.le_of_ble_eq_true rfl) ?_
  simp only [Option.toList, List.nil_append, List.cons_append]
  have hw2 : wf (cadd (cadd σ (q + 1) ((t % 4294967296 / 65536) % 256)) (q + 1) ((t % 4294967296 / 256) % 256)) := wf_add hw1 (by omega)
  refine C_aload_n dX1_putTag_30 rfl ?_
  refine C_get dX1_putTag_31 f_X1_14 (fun h hc => ⟨_, hc.2.2.2.2.2.1 _ hq, rfl⟩) ?_
  refine C_iload_n dX1_putTag_34 rfl ?_
  refine C_sipush dX1_putTag_35 (by decide) ?_
  refine C_and255 dX1_putTag_38 ?_
  refine D_callV (As := [vi _]) (d' := 0) (row_add hw2 (kQ1 hq) (by omega)) dX1_putTag_39 v_X1_48 (fun h hc => ⟨_, (hc.1 _ (kQ1 hq)).1⟩) rfl (Nat.le_of_ble_eq_true rfl) (by omega) (Nat.le_of_ble_eq_true rfl) ?_
  simp only [Option.toList, List.nil_append, List.cons_append]
  have hw3 : wf (cadd (cadd (cadd σ (q + 1) ((t % 4294967296 / 65536) % 256)) (q + 1) ((t % 4294967296 / 256) % 256)) (q + 1) (t % 256)) := wf_add hw2 (by omega)
  refine C_vret dX1_putTag_42 rfl ⟨rfl, ?_⟩
  rw [c_putTag]
theorem w_putTag {σ : cS} {q : Nat} {t : Int} (hw : wf σ) (hq : kd q = 1) (ht : rg t) : wf (c_putTag σ q t) := by
  unfold c_putTag
  have hw1 : wf (cadd σ (q + 1) ((t % 4294967296 / 65536) % 256)) := wf_add hw (by omega)
  have hw2 : wf (cadd (cadd σ (q + 1) ((t % 4294967296 / 65536) % 256)) (q + 1) ((t % 4294967296 / 256) % 256)) := wf_add hw1 (by omega)
  have hw3 : wf (cadd (cadd (cadd σ (q + 1) ((t % 4294967296 / 65536) % 256)) (q + 1) ((t % 4294967296 / 256) % 256)) (q + 1) (t % 256)) := wf_add hw2 (by omega)
  exact hw3
theorem i_putTag {σ : cS} {q : Nat} {t : Int} : (c_putTag σ q t).2 = σ.2 := by
  unfold c_putTag
  (repeat' split) <;> simp [cadd, cput, cemp, i_addCharacter, i_addComponent, i_addElement, i_addSegment, i_eempty, i_finish, i_judgeMessageN, i_note, i_pempty, i_tadd, i_xadd, i_xempty]
def c_isPrintMark (σ : cS) (c : Int) : Bool := (if c = 58 then true else (if c = 43 then true else (if c = 63 then true else (if c = 39 then true else false))))
theorem t_isPrintMark {l : Launch} {G : jG} {d : Nat} {σ : cS} {c : Int} (hw : wf σ) (hd : 0 ≤ d) (hc : rg c) : CJ jCls jown l G (Yx mX1_isPrintMark) d 0 0 0 [some (vi c)] [] σ (det (some (vi (bz (c_isPrintMark σ c)))) σ) := by
  refine C_iload_n dX1_isPrintMark_0 rfl ?_
  refine C_bipush dX1_isPrintMark_1 (by decide) ?_
  refine C_icmp_eq (tgt := 24) dX1_isPrintMark_3 (by decide) (by omega) (by omega) (fun c_3 => ?_) (fun c_3 => ?_)
  · refine C_iconst dX1_isPrintMark_24 ?_
    refine C_goto (tgt := 29) dX1_isPrintMark_25 (by decide) ?_
    refine C_zret dX1_isPrintMark_29 rfl (by first | exact Or.inl rfl | exact Or.inr rfl | exact bz_01 _) ?_
    unfold det; rw [c_isPrintMark, if_pos (by omega)]; exact ⟨rfl, rfl⟩
  · refine C_iload_n dX1_isPrintMark_6 rfl ?_
    refine C_bipush dX1_isPrintMark_7 (by decide) ?_
    refine C_icmp_eq (tgt := 24) dX1_isPrintMark_9 (by decide) (by omega) (by omega) (fun c_9 => ?_) (fun c_9 => ?_)
    · refine C_iconst dX1_isPrintMark_24 ?_
      refine C_goto (tgt := 29) dX1_isPrintMark_25 (by decide) ?_
      refine C_zret dX1_isPrintMark_29 rfl (by first | exact Or.inl rfl | exact Or.inr rfl | exact bz_01 _) ?_
      unfold det; rw [c_isPrintMark, if_neg (by omega), if_pos (by omega)]; exact ⟨rfl, rfl⟩
    · refine C_iload_n dX1_isPrintMark_12 rfl ?_
      refine C_bipush dX1_isPrintMark_13 (by decide) ?_
      refine C_icmp_eq (tgt := 24) dX1_isPrintMark_15 (by decide) (by omega) (by omega) (fun c_15 => ?_) (fun c_15 => ?_)
      · refine C_iconst dX1_isPrintMark_24 ?_
        refine C_goto (tgt := 29) dX1_isPrintMark_25 (by decide) ?_
        refine C_zret dX1_isPrintMark_29 rfl (by first | exact Or.inl rfl | exact Or.inr rfl | exact bz_01 _) ?_
        unfold det; rw [c_isPrintMark, if_neg (by omega), if_neg (by omega), if_pos (by omega)]; exact ⟨rfl, rfl⟩
      · refine C_iload_n dX1_isPrintMark_18 rfl ?_
        refine C_bipush dX1_isPrintMark_19 (by decide) ?_
        refine C_icmp_ne (tgt := 28) dX1_isPrintMark_21 (by decide) (by omega) (by omega) (fun c_21 => ?_) (fun c_21 => ?_)
        · refine C_iconst dX1_isPrintMark_28 ?_
          refine C_zret dX1_isPrintMark_29 rfl (by first | exact Or.inl rfl | exact Or.inr rfl | exact bz_01 _) ?_
          unfold det; rw [c_isPrintMark, if_neg (by omega), if_neg (by omega), if_neg (by omega), if_neg (by omega)]; exact ⟨rfl, rfl⟩
        · refine C_iconst dX1_isPrintMark_24 ?_
          refine C_goto (tgt := 29) dX1_isPrintMark_25 (by decide) ?_
          refine C_zret dX1_isPrintMark_29 rfl (by first | exact Or.inl rfl | exact Or.inr rfl | exact bz_01 _) ?_
          unfold det; rw [c_isPrintMark, if_neg (by omega), if_neg (by omega), if_neg (by omega), if_pos (by omega)]; exact ⟨rfl, rfl⟩
def c_putNumber (σ : cS) (q : Nat) (c : Int) : cS := (if c < 10 then (cadd σ (q + 1) (48 + (Int.tmod c 10))) else (cadd (cadd σ (q + 1) (48 + (c / 10))) (q + 1) (48 + (Int.tmod c 10))))
theorem t_putNumber {l : Launch} {G : jG} {d : Nat} {σ : cS} {q : Nat} {c : Int} (hw : wf σ) (hd : 1 ≤ d) (hq : kd q = 1) (hc : -400000000 ≤ c ∧ c < 400000000) : CJ jCls jown l G (Yx mX1_putNumber) d 0 0 0 [some (.ref q), some (vi c)] [] σ (det none (c_putNumber σ q c)) := by
  refine C_iload_n dX1_putNumber_0 rfl ?_
  refine C_bipush dX1_putNumber_1 (by decide) ?_
  refine C_icmp_lt (tgt := 20) dX1_putNumber_3 (by decide) (by omega) (by omega) (fun c_3 => ?_) (fun c_3 => ?_)
  · refine C_aload_n dX1_putNumber_20 rfl ?_
    refine C_get dX1_putNumber_21 f_X1_14 (fun h hc => ⟨_, hc.2.2.2.2.2.1 _ hq, rfl⟩) ?_
    refine C_bipush dX1_putNumber_24 (by decide) ?_
    refine C_iload_n dX1_putNumber_26 rfl ?_
    refine C_bipush dX1_putNumber_27 (by decide) ?_
    refine C_rem10 dX1_putNumber_29 (by omega) ?_
    have tm_29 := tm10 c
    refine C_iadd dX1_putNumber_30 ?_
    refine D_callV (As := [vi _]) (d' := 0) (row_add hw (kQ1 hq) (by omega)) dX1_putNumber_31 v_X1_48 (fun h hc => ⟨_, (hc.1 _ (kQ1 hq)).1⟩) rfl (Nat.le_of_ble_eq_true rfl) (by omega) (Nat.le_of_ble_eq_true rfl) ?_
    simp only [Option.toList, List.nil_append, List.cons_append]
    have hw2 : wf (cadd σ (q + 1) (48 + (Int.tmod c 10))) := wf_add hw (by omega)
    refine C_vret dX1_putNumber_34 rfl ⟨rfl, ?_⟩
    rw [c_putNumber, if_pos (by omega)]
  · refine C_aload_n dX1_putNumber_6 rfl ?_
    refine C_get dX1_putNumber_7 f_X1_14 (fun h hc => ⟨_, hc.2.2.2.2.2.1 _ hq, rfl⟩) ?_
    refine C_bipush dX1_putNumber_10 (by decide) ?_
    refine C_iload_n dX1_putNumber_12 rfl ?_
    refine C_bipush dX1_putNumber_13 (by decide) ?_
    refine C_idiv dX1_putNumber_15 (by omega) (by omega) (by omega) (by omega) ?_
    refine C_iadd dX1_putNumber_16 ?_
    refine D_callV (As := [vi _]) (d' := 0) (row_add hw (kQ1 hq) (by omega)) dX1_putNumber_17 v_X1_48 (fun h hc => ⟨_, (hc.1 _ (kQ1 hq)).1⟩) rfl (Nat.le_of_ble_eq_true rfl) (by omega) (Nat.le_of_ble_eq_true rfl) ?_
    simp only [Option.toList, List.nil_append, List.cons_append]
    have hw3 : wf (cadd σ (q + 1) (48 + (c / 10))) := wf_add hw (by omega)
    refine C_aload_n dX1_putNumber_20 rfl ?_
    refine C_get dX1_putNumber_21 f_X1_14 (fun h hc => ⟨_, hc.2.2.2.2.2.1 _ hq, rfl⟩) ?_
    refine C_bipush dX1_putNumber_24 (by decide) ?_
    refine C_iload_n dX1_putNumber_26 rfl ?_
    refine C_bipush dX1_putNumber_27 (by decide) ?_
    refine C_rem10 dX1_putNumber_29 (by omega) ?_
    have tm_29 := tm10 c
    refine C_iadd dX1_putNumber_30 ?_
    refine D_callV (As := [vi _]) (d' := 0) (row_add hw3 (kQ1 hq) (by omega)) dX1_putNumber_31 v_X1_48 (fun h hc => ⟨_, (hc.1 _ (kQ1 hq)).1⟩) rfl (Nat.le_of_ble_eq_true rfl) (by omega) (Nat.le_of_ble_eq_true rfl) ?_
    simp only [Option.toList, List.nil_append, List.cons_append]
    have hw4 : wf (cadd (cadd σ (q + 1) (48 + (c / 10))) (q + 1) (48 + (Int.tmod c 10))) := wf_add hw3 (by omega)
    refine C_vret dX1_putNumber_34 rfl ⟨rfl, ?_⟩
    rw [c_putNumber, if_neg (by omega)]
theorem w_putNumber {σ : cS} {q : Nat} {c : Int} (hw : wf σ) (hq : kd q = 1) (hc : -400000000 ≤ c ∧ c < 400000000) : wf (c_putNumber σ q c) := by
  unfold c_putNumber
  split
  · have tm_29 := tm10 c
    have hw2 : wf (cadd σ (q + 1) (48 + (Int.tmod c 10))) := wf_add hw (by omega)
    exact hw2
  · have hw3 : wf (cadd σ (q + 1) (48 + (c / 10))) := wf_add hw (by omega)
    have tm_29 := tm10 c
    have hw4 : wf (cadd (cadd σ (q + 1) (48 + (c / 10))) (q + 1) (48 + (Int.tmod c 10))) := wf_add hw3 (by omega)
    exact hw4
theorem i_putNumber {σ : cS} {q : Nat} {c : Int} : (c_putNumber σ q c).2 = σ.2 := by
  unfold c_putNumber
  (repeat' split) <;> simp [cadd, cput, cemp, i_addCharacter, i_addComponent, i_addElement, i_addSegment, i_eempty, i_finish, i_judgeMessageN, i_note, i_pempty, i_putTag, i_tadd, i_xadd, i_xempty]
def c_putComponentL (q : Nat) (p : Nat) (c : Int) : Nat → Int → Int → cS → cS
  | 0, _, _, σ => σ
  | fu + 1, n, i, σ => (if n ≤ i then σ else (if (c_isPrintMark σ (c_characterOf σ p c i)) = true then (c_putComponentL q p c fu n (i + 1) (cadd (cadd σ (q + 1) 63) (q + 1) (c_characterOf σ p c i))) else (c_putComponentL q p c fu n (i + 1) (cadd σ (q + 1) (c_characterOf σ p c i)))))
def c_putComponent (σ : cS) (q : Nat) (p : Nat) (c : Int) : cS := (c_putComponentL q p c (400000001) (c_widthOf σ p c) 0 σ)
theorem t_putComponentL {l : Launch} {G : jG} {d : Nat} {σ : cS} {q : Nat} {p : Nat} {c : Int} {n i : Int} (hw : wf σ) (hd : 3 ≤ d) (hq : kd q = 1) (hp : kd p = 2) (hc : -400000000 ≤ c ∧ c < 400000000) (fu : Nat) (hn : -400000000 ≤ n ∧ n < 400000000) (hi : 0 ≤ i ∧ i ≤ 400000000) (hm : 400000000 - i < (fu : Int)) : CJ jCls jown l G (Yx mX1_putComponent) d 0 0 9 [some (.ref q), some (.ref p), some (vi c), some (vi n), some (vi i), none] [] σ (det none (c_putComponentL q p c fu n i σ)) := by
  induction fu generalizing σ n i with
  | zero => exact absurd hm (by omega)
  | succ fu ih =>
    refine C_iload dX1_putComponent_9 rfl ?_
    refine C_iload_n dX1_putComponent_11 rfl ?_
    refine C_icmp_ge (tgt := 56) dX1_putComponent_12 (by decide) (by omega) (by omega) (fun c_12 => ?_) (fun c_12 => ?_)
    · refine C_vret dX1_putComponent_56 rfl ⟨rfl, ?_⟩
      rw [c_putComponentL, if_pos (by omega)]
    · refine C_aload_n dX1_putComponent_15 rfl ?_
      refine C_iload_n dX1_putComponent_16 rfl ?_
      refine C_iload dX1_putComponent_17 rfl ?_
      refine D_callV (As := [vi _, vi _]) (d' := 2) (t_characterOf hw (Nat.le_refl _) hp (by omega) (by omega)) dX1_putComponent_19 v_X1_105 (fun h hc => ⟨_, hc.2.1 _ hp⟩) rfl (Nat.le_of_ble_eq_true rfl) (by omega) (Nat.le_of_ble_eq_true rfl) ?_
      simp only [Option.toList, List.nil_append, List.cons_append]
      have r_19 := r_characterOf (p := p) (k := c) (i := i) hw hp (by omega) (by omega)
      refine C_istore dX1_putComponent_22 (by decide) rfl ?_
      simp only [List.set_cons_zero, List.set_cons_succ, jfin0, jfin1, jfin2, jfin3]
      refine C_iload dX1_putComponent_24 rfl ?_
      refine D_callS (As := [vi _]) (d' := 0) (t_isPrintMark hw (Nat.le_refl _) (by omega)) dX1_putComponent_26 s_X1_108 rfl (Nat.le_of_ble_eq_true rfl) (by omega) (Nat.le_of_ble_eq_true rfl) ?_
      simp only [Option.toList, List.nil_append, List.cons_append]
      refine C_if_eqZ (tgt := 41) dX1_putComponent_29 (by decide) (fun c_29 => ?_) (fun c_29 => ?_)
      · refine C_aload_n dX1_putComponent_41 rfl ?_
        refine C_get dX1_putComponent_42 f_X1_14 (fun h hc => ⟨_, hc.2.2.2.2.2.1 _ hq, rfl⟩) ?_
        refine C_iload dX1_putComponent_45 rfl ?_
        refine D_callV (As := [vi _]) (d' := 0) (row_add hw (kQ1 hq) (by omega)) dX1_putComponent_47 v_X1_48 (fun h hc => ⟨_, (hc.1 _ (kQ1 hq)).1⟩) rfl (Nat.le_of_ble_eq_true rfl) (by omega) (Nat.le_of_ble_eq_true rfl) ?_
        simp only [Option.toList, List.nil_append, List.cons_append]
        have hw3 : wf (cadd σ (q + 1) (c_characterOf σ p c i)) := wf_add hw (by omega)
        refine C_iinc dX1_putComponent_50 rfl (by decide) rfl ?_
        simp only [List.set_cons_zero, List.set_cons_succ]
        refine C_goto (tgt := 9) dX1_putComponent_53 (by decide) ?_
        rw [c_putComponentL, if_neg (by omega), if_neg (by rw [c_29]; decide)]
        refine CJ.mono (ls' := [some (.ref q), some (.ref p), some (vi c), some (vi n), some (vi (i + 1)), none]) (lsub_ok (by repeat (first | exact trivial | refine ⟨rfl, ?_⟩))) (fun _ _ q => q) ?_
        exact ih hw3 (by omega) (by omega) (by omega)
      · refine C_aload_n dX1_putComponent_32 rfl ?_
        refine C_get dX1_putComponent_33 f_X1_14 (fun h hc => ⟨_, hc.2.2.2.2.2.1 _ hq, rfl⟩) ?_
        refine C_bipush dX1_putComponent_36 (by decide) ?_
        refine D_callV (As := [vi _]) (d' := 0) (row_add hw (kQ1 hq) (by omega)) dX1_putComponent_38 v_X1_48 (fun h hc => ⟨_, (hc.1 _ (kQ1 hq)).1⟩) rfl (Nat.le_of_ble_eq_true rfl) (by omega) (Nat.le_of_ble_eq_true rfl) ?_
        simp only [Option.toList, List.nil_append, List.cons_append]
        have hw4 : wf (cadd σ (q + 1) 63) := wf_add hw (by omega)
        refine C_aload_n dX1_putComponent_41 rfl ?_
        refine C_get dX1_putComponent_42 f_X1_14 (fun h hc => ⟨_, hc.2.2.2.2.2.1 _ hq, rfl⟩) ?_
        refine C_iload dX1_putComponent_45 rfl ?_
        refine D_callV (As := [vi _]) (d' := 0) (row_add hw4 (kQ1 hq) (by omega)) dX1_putComponent_47 v_X1_48 (fun h hc => ⟨_, (hc.1 _ (kQ1 hq)).1⟩) rfl (Nat.le_of_ble_eq_true rfl) (by omega) (Nat.le_of_ble_eq_true rfl) ?_
        simp only [Option.toList, List.nil_append, List.cons_append]
        have hw5 : wf (cadd (cadd σ (q + 1) 63) (q + 1) (c_characterOf σ p c i)) := wf_add hw4 (by omega)
        refine C_iinc dX1_putComponent_50 rfl (by decide) rfl ?_
        simp only [List.set_cons_zero, List.set_cons_succ]
        refine C_goto (tgt := 9) dX1_putComponent_53 (by decide) ?_
        rw [c_putComponentL, if_neg (by omega), if_pos c_29]
        refine CJ.mono (ls' := [some (.ref q), some (.ref p), some (vi c), some (vi n), some (vi (i + 1)), none]) (lsub_ok (by repeat (first | exact trivial | refine ⟨rfl, ?_⟩))) (fun _ _ q => q) ?_
        exact ih hw5 (by omega) (by omega) (by omega)
theorem t_putComponent {l : Launch} {G : jG} {d : Nat} {σ : cS} {q : Nat} {p : Nat} {c : Int} (hw : wf σ) (hd : 3 ≤ d) (hq : kd q = 1) (hp : kd p = 2) (hc : -400000000 ≤ c ∧ c < 400000000) : CJ jCls jown l G (Yx mX1_putComponent) d 0 0 0 [some (.ref q), some (.ref p), some (vi c), none, none, none] [] σ (det none (c_putComponent σ q p c)) := by
  refine C_aload_n dX1_putComponent_0 rfl ?_
  refine C_iload_n dX1_putComponent_1 rfl ?_
  refine D_callV (As := [vi _]) (d' := 1) (t_widthOf hw (Nat.le_refl _) hp (by omega)) dX1_putComponent_2 v_X1_102 (fun h hc => ⟨_, hc.2.1 _ hp⟩) rfl (Nat.le_of_ble_eq_true rfl) (by omega) (Nat.le_of_ble_eq_true rfl) ?_
  simp only [Option.toList, List.nil_append, List.cons_append]
  have r_2 := r_widthOf (p := p) (k := c) hw hp (by omega)
  refine C_istore_n dX1_putComponent_5 (by decide) rfl ?_
  simp only [List.set_cons_zero, List.set_cons_succ, jfin0, jfin1, jfin2, jfin3]
  refine C_iconst dX1_putComponent_6 ?_
  refine C_istore dX1_putComponent_7 (by decide) rfl ?_
  simp only [List.set_cons_zero, List.set_cons_succ, jfin0, jfin1, jfin2, jfin3]
  rw [c_putComponent]
  refine CJ.mono (ls' := [some (.ref q), some (.ref p), some (vi c), some (vi (c_widthOf σ p c)), some (vi 0), none]) (lsub_ok (by repeat (first | exact trivial | refine ⟨rfl, ?_⟩))) (fun _ _ q => q) ?_
  exact t_putComponentL hw hd hq hp hc (400000001) (by omega) (by omega) (by omega)
theorem w_putComponentL {σ : cS} {q : Nat} {p : Nat} {c : Int} {n i : Int} (hw : wf σ) (hq : kd q = 1) (hp : kd p = 2) (hc : -400000000 ≤ c ∧ c < 400000000) (fu : Nat) (hn : -400000000 ≤ n ∧ n < 400000000) (hi : 0 ≤ i ∧ i ≤ 400000000) : wf (c_putComponentL q p c fu n i σ) := by
  induction fu generalizing σ n i with
  | zero => exact hw
  | succ fu ih =>
    unfold c_putComponentL
    split
    · exact hw
    · split
      · have r_19 := r_characterOf (p := p) (k := c) (i := i) hw hp (by omega) (by omega)
        have hw4 : wf (cadd σ (q + 1) 63) := wf_add hw (by omega)
        have hw5 : wf (cadd (cadd σ (q + 1) 63) (q + 1) (c_characterOf σ p c i)) := wf_add hw4 (by omega)
        exact ih hw5 (by omega) (by omega)
      · have r_19 := r_characterOf (p := p) (k := c) (i := i) hw hp (by omega) (by omega)
        have hw3 : wf (cadd σ (q + 1) (c_characterOf σ p c i)) := wf_add hw (by omega)
        exact ih hw3 (by omega) (by omega)
theorem w_putComponent {σ : cS} {q : Nat} {p : Nat} {c : Int} (hw : wf σ) (hq : kd q = 1) (hp : kd p = 2) (hc : -400000000 ≤ c ∧ c < 400000000) : wf (c_putComponent σ q p c) := by
  unfold c_putComponent
  have r_2 := r_widthOf (p := p) (k := c) hw hp (by omega)
  exact w_putComponentL hw hq hp hc (400000001) (by omega) (by omega)
def c_putElementL (q : Nat) (p : Nat) (g : Int) : Nat → Int → Int → Int → cS → cS
  | 0, _, _, _, σ => σ
  | fu + 1, f, n, k, σ => (if n ≤ k then σ else (if k ≤ f then (c_putElementL q p g fu f n (k + 1) (c_putComponent σ q p k)) else (c_putElementL q p g fu f n (k + 1) (c_putComponent (cadd σ (q + 1) 58) q p k))))
def c_putElement (σ : cS) (q : Nat) (p : Nat) (g : Int) : cS := (c_putElementL q p g (400003001) (c_firstComponent σ p g) (c_filledEnd σ p g) (c_firstComponent σ p g) σ)
theorem t_putElementL {l : Launch} {G : jG} {d : Nat} {σ : cS} {q : Nat} {p : Nat} {g : Int} {f n k : Int} (hw : wf σ) (hd : 4 ≤ d) (hq : kd q = 1) (hp : kd p = 2) (hg : -400000000 ≤ g ∧ g < 400000000) (fu : Nat) (hf : -3000 ≤ f ∧ f < 100000000) (hn : -400000000 ≤ n ∧ n < 400000000) (hk : -3000 ≤ k ∧ k ≤ 400000000) (hm : 400000000 - k < (fu : Int)) : CJ jCls jown l G (Yx mX1_putElement) d 0 0 16 [some (.ref q), some (.ref p), some (vi g), some (vi f), some (vi n), some (vi k)] [] σ (det none (c_putElementL q p g fu f n k σ)) := by
  induction fu generalizing σ f n k with
  | zero => exact absurd hm (by omega)
  | succ fu ih =>
    refine C_iload dX1_putElement_16 rfl ?_
    refine C_iload dX1_putElement_18 rfl ?_
    refine C_icmp_ge (tgt := 51) dX1_putElement_20 (by decide) (by omega) (by omega) (fun c_20 => ?_) (fun c_20 => ?_)
    · refine C_vret dX1_putElement_51 rfl ⟨rfl, ?_⟩
      rw [c_putElementL, if_pos (by omega)]
    · refine C_iload dX1_putElement_23 rfl ?_
      refine C_iload_n dX1_putElement_25 rfl ?_
      refine C_icmp_le (tgt := 38) dX1_putElement_26 (by decide) (by omega) (by omega) (fun c_26 => ?_) (fun c_26 => ?_)
      · refine C_aload_n dX1_putElement_38 rfl ?_
        refine C_aload_n dX1_putElement_39 rfl ?_
        refine C_iload dX1_putElement_40 rfl ?_
        refine D_callV (As := [.ref _, vi _]) (d' := 3) (t_putComponent hw (Nat.le_refl _) hq hp (by omega)) dX1_putElement_42 v_X1_93 (fun h hc => ⟨_, hc.2.2.2.2.2.1 _ hq⟩) rfl (Nat.le_of_ble_eq_true rfl) (by omega) (Nat.le_of_ble_eq_true rfl) ?_
        simp only [Option.toList, List.nil_append, List.cons_append]
        have hw3 : wf (c_putComponent σ q p k) := w_putComponent hw hq hp (by omega)
        refine C_iinc dX1_putElement_45 rfl (by decide) rfl ?_
        simp only [List.set_cons_zero, List.set_cons_succ]
        refine C_goto (tgt := 16) dX1_putElement_48 (by decide) ?_
        rw [c_putElementL, if_neg (by omega), if_pos (by omega)]
        refine CJ.mono (ls' := [some (.ref q), some (.ref p), some (vi g), some (vi f), some (vi n), some (vi (k + 1))]) (lsub_ok (by repeat (first | exact trivial | refine ⟨rfl, ?_⟩))) (fun _ _ q => q) ?_
        exact ih hw3 (by omega) (by omega) (by omega) (by omega)
      · refine C_aload_n dX1_putElement_29 rfl ?_
        refine C_get dX1_putElement_30 f_X1_14 (fun h hc => ⟨_, hc.2.2.2.2.2.1 _ hq, rfl⟩) ?_
        refine C_bipush dX1_putElement_33 (by decide) ?_
        refine D_callV (As := [vi _]) (d' := 0) (row_add hw (kQ1 hq) (by omega)) dX1_putElement_35 v_X1_48 (fun h hc => ⟨_, (hc.1 _ (kQ1 hq)).1⟩) rfl (Nat.le_of_ble_eq_true rfl) (by omega) (Nat.le_of_ble_eq_true rfl) ?_
        simp only [Option.toList, List.nil_append, List.cons_append]
        have hw4 : wf (cadd σ (q + 1) 58) := wf_add hw (by omega)
        refine C_aload_n dX1_putElement_38 rfl ?_
        refine C_aload_n dX1_putElement_39 rfl ?_
        refine C_iload dX1_putElement_40 rfl ?_
        refine D_callV (As := [.ref _, vi _]) (d' := 3) (t_putComponent hw4 (Nat.le_refl _) hq hp (by omega)) dX1_putElement_42 v_X1_93 (fun h hc => ⟨_, hc.2.2.2.2.2.1 _ hq⟩) rfl (Nat.le_of_ble_eq_true rfl) (by omega) (Nat.le_of_ble_eq_true rfl) ?_
        simp only [Option.toList, List.nil_append, List.cons_append]
        have hw5 : wf (c_putComponent (cadd σ (q + 1) 58) q p k) := w_putComponent hw4 hq hp (by omega)
        refine C_iinc dX1_putElement_45 rfl (by decide) rfl ?_
        simp only [List.set_cons_zero, List.set_cons_succ]
        refine C_goto (tgt := 16) dX1_putElement_48 (by decide) ?_
        rw [c_putElementL, if_neg (by omega), if_neg (by omega)]
        refine CJ.mono (ls' := [some (.ref q), some (.ref p), some (vi g), some (vi f), some (vi n), some (vi (k + 1))]) (lsub_ok (by repeat (first | exact trivial | refine ⟨rfl, ?_⟩))) (fun _ _ q => q) ?_
        exact ih hw5 (by omega) (by omega) (by omega) (by omega)
theorem t_putElement {l : Launch} {G : jG} {d : Nat} {σ : cS} {q : Nat} {p : Nat} {g : Int} (hw : wf σ) (hd : 4 ≤ d) (hq : kd q = 1) (hp : kd p = 2) (hg : -400000000 ≤ g ∧ g < 400000000) : CJ jCls jown l G (Yx mX1_putElement) d 0 0 0 [some (.ref q), some (.ref p), some (vi g), none, none, none] [] σ (det none (c_putElement σ q p g)) := by
  refine C_aload_n dX1_putElement_0 rfl ?_
  refine C_iload_n dX1_putElement_1 rfl ?_
  refine D_callV (As := [vi _]) (d' := 1) (t_firstComponent hw (Nat.le_refl _) hp (by omega)) dX1_putElement_2 v_X1_96 (fun h hc => ⟨_, hc.2.1 _ hp⟩) rfl (Nat.le_of_ble_eq_true rfl) (by omega) (Nat.le_of_ble_eq_true rfl) ?_
  simp only [Option.toList, List.nil_append, List.cons_append]
  have r_2 := r_firstComponent (p := p) (i := g) hw hp (by omega)
  refine C_istore_n dX1_putElement_5 (by decide) rfl ?_
  simp only [List.set_cons_zero, List.set_cons_succ, jfin0, jfin1, jfin2, jfin3]
  refine C_aload_n dX1_putElement_6 rfl ?_
  refine C_iload_n dX1_putElement_7 rfl ?_
  refine D_callV (As := [vi _]) (d' := 1) (t_filledEnd hw (Nat.le_refl _) hp (by omega)) dX1_putElement_8 v_X1_99 (fun h hc => ⟨_, hc.2.1 _ hp⟩) rfl (Nat.le_of_ble_eq_true rfl) (by omega) (Nat.le_of_ble_eq_true rfl) ?_
  simp only [Option.toList, List.nil_append, List.cons_append]
  have r_8 := r_filledEnd (p := p) (a := g) hw hp (by omega)
  refine C_istore dX1_putElement_11 (by decide) rfl ?_
  simp only [List.set_cons_zero, List.set_cons_succ, jfin0, jfin1, jfin2, jfin3]
  refine C_iload_n dX1_putElement_13 rfl ?_
  refine C_istore dX1_putElement_14 (by decide) rfl ?_
  simp only [List.set_cons_zero, List.set_cons_succ, jfin0, jfin1, jfin2, jfin3]
  rw [c_putElement]
  refine CJ.mono (ls' := [some (.ref q), some (.ref p), some (vi g), some (vi (c_firstComponent σ p g)), some (vi (c_filledEnd σ p g)), some (vi (c_firstComponent σ p g))]) (lsub_ok (by repeat (first | exact trivial | refine ⟨rfl, ?_⟩))) (fun _ _ q => q) ?_
  exact t_putElementL hw hd hq hp hg (400003001) (by omega) (by omega) (by omega) (by omega)
theorem w_putElementL {σ : cS} {q : Nat} {p : Nat} {g : Int} {f n k : Int} (hw : wf σ) (hq : kd q = 1) (hp : kd p = 2) (hg : -400000000 ≤ g ∧ g < 400000000) (fu : Nat) (hf : -3000 ≤ f ∧ f < 100000000) (hn : -400000000 ≤ n ∧ n < 400000000) (hk : -3000 ≤ k ∧ k ≤ 400000000) : wf (c_putElementL q p g fu f n k σ) := by
  induction fu generalizing σ f n k with
  | zero => exact hw
  | succ fu ih =>
    unfold c_putElementL
    split
    · exact hw
    · split
      · have hw3 : wf (c_putComponent σ q p k) := w_putComponent hw hq hp (by omega)
        exact ih hw3 (by omega) (by omega) (by omega)
      · have hw4 : wf (cadd σ (q + 1) 58) := wf_add hw (by omega)
        have hw5 : wf (c_putComponent (cadd σ (q + 1) 58) q p k) := w_putComponent hw4 hq hp (by omega)
        exact ih hw5 (by omega) (by omega) (by omega)
theorem w_putElement {σ : cS} {q : Nat} {p : Nat} {g : Int} (hw : wf σ) (hq : kd q = 1) (hp : kd p = 2) (hg : -400000000 ≤ g ∧ g < 400000000) : wf (c_putElement σ q p g) := by
  unfold c_putElement
  have r_2 := r_firstComponent (p := p) (i := g) hw hp (by omega)
  have r_8 := r_filledEnd (p := p) (a := g) hw hp (by omega)
  exact w_putElementL hw hq hp hg (400003001) (by omega) (by omega) (by omega)
def c_putVerdict (σ : cS) (q : Nat) (t : Int) (p : Nat) (r : Int) (c : Int) : cS := (c_putNumber (cadd (c_putComponent (cadd (c_putTag σ q t) (q + 1) 43) q p r) (q + 1) 43) q c)
theorem t_putVerdict {l : Launch} {G : jG} {d : Nat} {σ : cS} {q : Nat} {t : Int} {p : Nat} {r : Int} {c : Int} (hw : wf σ) (hd : 4 ≤ d) (hq : kd q = 1) (ht : rg t) (hp : kd p = 2) (hr : -400000000 ≤ r ∧ r < 400000000) (hc : -400000000 ≤ c ∧ c < 400000000) : CJ jCls jown l G (Yx mX1_putVerdict) d 0 0 0 [some (.ref q), some (vi t), some (.ref p), some (vi r), some (vi c)] [] σ (det none (c_putVerdict σ q t p r c)) := by
  refine C_aload_n dX1_putVerdict_0 rfl ?_
  refine C_iload_n dX1_putVerdict_1 rfl ?_
  refine D_callV (As := [vi _]) (d' := 1) (t_putTag hw (Nat.le_refl _) hq (by omega)) dX1_putVerdict_2 v_X1_39 (fun h hc => ⟨_, hc.2.2.2.2.2.1 _ hq⟩) rfl (Nat.le_of_ble_eq_true rfl) (by omega) (Nat.le_of_ble_eq_true rfl) ?_
  simp only [Option.toList, List.nil_append, List.cons_append]
  have hw1 : wf (c_putTag σ q t) := w_putTag hw hq (by omega)
  refine C_aload_n dX1_putVerdict_5 rfl ?_
  refine C_get dX1_putVerdict_6 f_X1_14 (fun h hc => ⟨_, hc.2.2.2.2.2.1 _ hq, rfl⟩) ?_
  refine C_bipush dX1_putVerdict_9 (by decide) ?_
  refine D_callV (As := [vi _]) (d' := 0) (row_add hw1 (kQ1 hq) (by omega)) dX1_putVerdict_11 v_X1_48 (fun h hc => ⟨_, (hc.1 _ (kQ1 hq)).1⟩) rfl (Nat.le_of_ble_eq_true rfl) (by omega) (Nat.le_of_ble_eq_true rfl) ?_
  simp only [Option.toList, List.nil_append, List.cons_append]
  have hw2 : wf (cadd (c_putTag σ q t) (q + 1) 43) := wf_add hw1 (by omega)
  refine C_aload_n dX1_putVerdict_14 rfl ?_
  refine C_aload_n dX1_putVerdict_15 rfl ?_
  refine C_iload_n dX1_putVerdict_16 rfl ?_
  refine D_callV (As := [.ref _, vi _]) (d' := 3) (t_putComponent hw2 (Nat.le_refl _) hq hp (by omega)) dX1_putVerdict_17 v_X1_93 (fun h hc => ⟨_, hc.2.2.2.2.2.1 _ hq⟩) rfl (Nat.le_of_ble_eq_true rfl) (by omega) (Nat.le_of_ble_eq_true rfl) ?_
  simp only [Option.toList, List.nil_append, List.cons_append]
  have hw3 : wf (c_putComponent (cadd (c_putTag σ q t) (q + 1) 43) q p r) := w_putComponent hw2 hq hp (by omega)
  refine C_aload_n dX1_putVerdict_20 rfl ?_
  refine C_get dX1_putVerdict_21 f_X1_14 (fun h hc => ⟨_, hc.2.2.2.2.2.1 _ hq, rfl⟩) ?_
  refine C_bipush dX1_putVerdict_24 (by decide) ?_
  refine D_callV (As := [vi _]) (d' := 0) (row_add hw3 (kQ1 hq) (by omega)) dX1_putVerdict_26 v_X1_48 (fun h hc => ⟨_, (hc.1 _ (kQ1 hq)).1⟩) rfl (Nat.le_of_ble_eq_true rfl) (by omega) (Nat.le_of_ble_eq_true rfl) ?_
  simp only [Option.toList, List.nil_append, List.cons_append]
  have hw4 : wf (cadd (c_putComponent (cadd (c_putTag σ q t) (q + 1) 43) q p r) (q + 1) 43) := wf_add hw3 (by omega)
  refine C_aload_n dX1_putVerdict_29 rfl ?_
  refine C_iload dX1_putVerdict_30 rfl ?_
  refine D_callV (As := [vi _]) (d' := 1) (t_putNumber hw4 (Nat.le_refl _) hq (by omega)) dX1_putVerdict_32 v_X1_90 (fun h hc => ⟨_, hc.2.2.2.2.2.1 _ hq⟩) rfl (Nat.le_of_ble_eq_true rfl) (by omega) (Nat.le_of_ble_eq_true rfl) ?_
  simp only [Option.toList, List.nil_append, List.cons_append]
  have hw5 : wf (c_putNumber (cadd (c_putComponent (cadd (c_putTag σ q t) (q + 1) 43) q p r) (q + 1) 43) q c) := w_putNumber hw4 hq (by omega)
  refine C_vret dX1_putVerdict_35 rfl ⟨rfl, ?_⟩
  rw [c_putVerdict]
theorem w_putVerdict {σ : cS} {q : Nat} {t : Int} {p : Nat} {r : Int} {c : Int} (hw : wf σ) (hq : kd q = 1) (ht : rg t) (hp : kd p = 2) (hr : -400000000 ≤ r ∧ r < 400000000) (hc : -400000000 ≤ c ∧ c < 400000000) : wf (c_putVerdict σ q t p r c) := by
  unfold c_putVerdict
  have hw1 : wf (c_putTag σ q t) := w_putTag hw hq (by omega)
  have hw2 : wf (cadd (c_putTag σ q t) (q + 1) 43) := wf_add hw1 (by omega)
  have hw3 : wf (c_putComponent (cadd (c_putTag σ q t) (q + 1) 43) q p r) := w_putComponent hw2 hq hp (by omega)
  have hw4 : wf (cadd (c_putComponent (cadd (c_putTag σ q t) (q + 1) 43) q p r) (q + 1) 43) := wf_add hw3 (by omega)
  have hw5 : wf (c_putNumber (cadd (c_putComponent (cadd (c_putTag σ q t) (q + 1) 43) q p r) (q + 1) 43) q c) := w_putNumber hw4 hq (by omega)
  exact hw5
def c_writePrintI (q : Nat) (p : Nat) (s : Int) (n : Int) : Nat → Int → cS → cS
  | 0, _, σ => σ
  | fu + 1, k, σ => (if n ≤ k then σ else (c_writePrintI q p s n fu (k + 1) (c_putElement (cadd σ (q + 1) 43) q p k)))
theorem t_writePrintI {l : Launch} {G : jG} {d bc bs : Nat} {P : jO → cS → Prop} {σ : cS} {q : Nat} {p : Nat} {s : Int} {n : Int} {k : Int} (hw : wf σ) (hd : 5 ≤ d) (hq : kd q = 1) (hp : kd p = 2) (hs : rg s) (hn : -400000000 ≤ n ∧ n < 400000000) (fu : Nat) (hk : -3000 ≤ k ∧ k ≤ 399999999) (hm : 400000000 - k < (fu : Int)) (kk : CJ jCls jown l G (Yx mX1_writePrint) d bc bs 67 [some (.ref q), some (.ref p), some (vi s), some (vi n), none] [] (c_writePrintI q p s n fu k σ) P) : CJ jCls jown l G (Yx mX1_writePrint) d bc bs 39 [some (.ref q), some (.ref p), some (vi s), some (vi n), some (vi k)] [] σ P := by
  induction fu generalizing σ k with
  | zero => exact absurd hm (by omega)
  | succ fu ih =>
    refine C_iload dX1_writePrint_39 rfl ?_
    refine C_iload_n dX1_writePrint_41 rfl ?_
    refine C_icmp_ge (tgt := 67) dX1_writePrint_42 (by decide) (by omega) (by omega) (fun c_42 => ?_) (fun c_42 => ?_)
    · rw [c_writePrintI, if_pos (by omega)] at kk
      refine CJ.mono (ls' := [some (.ref q), some (.ref p), some (vi s), some (vi n), none]) (lsub_ok (by repeat (first | exact trivial | refine ⟨rfl, ?_⟩))) (fun _ _ q => q) ?_
      exact kk
    · refine C_aload_n dX1_writePrint_45 rfl ?_
      refine C_get dX1_writePrint_46 f_X1_14 (fun h hc => ⟨_, hc.2.2.2.2.2.1 _ hq, rfl⟩) ?_
      refine C_bipush dX1_writePrint_49 (by decide) ?_
      refine D_callV (As := [vi _]) (d' := 0) (row_add hw (kQ1 hq) (by omega)) dX1_writePrint_51 v_X1_48 (fun h hc => ⟨_, (hc.1 _ (kQ1 hq)).1⟩) rfl (Nat.le_of_ble_eq_true rfl) (by omega) (Nat.le_of_ble_eq_true rfl) ?_
      simp only [Option.toList, List.nil_append, List.cons_append]
      have hw2 : wf (cadd σ (q + 1) 43) := wf_add hw (by omega)
      refine C_aload_n dX1_writePrint_54 rfl ?_
      refine C_aload_n dX1_writePrint_55 rfl ?_
      refine C_iload dX1_writePrint_56 rfl ?_
      refine D_callV (As := [.ref _, vi _]) (d' := 4) (t_putElement hw2 (Nat.le_refl _) hq hp (by omega)) dX1_writePrint_58 v_X1_51 (fun h hc => ⟨_, hc.2.2.2.2.2.1 _ hq⟩) rfl (Nat.le_of_ble_eq_true rfl) (by omega) (Nat.le_of_ble_eq_true rfl) ?_
      simp only [Option.toList, List.nil_append, List.cons_append]
      have hw3 : wf (c_putElement (cadd σ (q + 1) 43) q p k) := w_putElement hw2 hq hp (by omega)
      refine C_iinc dX1_writePrint_61 rfl (by decide) rfl ?_
      simp only [List.set_cons_zero, List.set_cons_succ]
      refine C_goto (tgt := 39) dX1_writePrint_64 (by decide) ?_
      rw [c_writePrintI, if_neg (by omega)] at kk
      refine CJ.mono (ls' := [some (.ref q), some (.ref p), some (vi s), some (vi n), some (vi (k + 1))]) (lsub_ok (by repeat (first | exact trivial | refine ⟨rfl, ?_⟩))) (fun _ _ q => q) ?_
      exact ih hw3 (by omega) (by omega) kk
theorem w_writePrintI {σ : cS} {q : Nat} {p : Nat} {s : Int} {n : Int} {k : Int} (hw : wf σ) (hq : kd q = 1) (hp : kd p = 2) (hs : rg s) (hn : -400000000 ≤ n ∧ n < 400000000) (fu : Nat) (hk : -3000 ≤ k ∧ k ≤ 399999999) : wf (c_writePrintI q p s n fu k σ) := by
  induction fu generalizing σ k with
  | zero => exact hw
  | succ fu ih =>
    unfold c_writePrintI
    split
    · exact hw
    · have hw2 : wf (cadd σ (q + 1) 43) := wf_add hw (by omega)
      have hw3 : wf (c_putElement (cadd σ (q + 1) 43) q p k) := w_putElement hw2 hq hp (by omega)
      exact (ih hw3 (by omega))
def c_writePrintL (q : Nat) (p : Nat) : Nat → Int → cS → cS
  | 0, _, σ => σ
  | fu + 1, s, σ => (if (c_segmentCount σ p) ≤ s then σ else (c_writePrintL q p fu (s + 1) (cadd (c_writePrintI q p s (c_filledElementEnd (c_putTag σ q (c_tagOf σ p s)) p s) (400003001) (c_firstElement (c_putTag σ q (c_tagOf σ p s)) p s) (c_putTag σ q (c_tagOf σ p s))) (q + 1) 39)))
def c_writePrint (σ : cS) (q : Nat) (p : Nat) : cS := (c_writePrintL q p (2001) 0 (cemp σ (q + 1)))
theorem t_writePrintL {l : Launch} {G : jG} {d : Nat} {σ : cS} {q : Nat} {p : Nat} {s : Int} (hw : wf σ) (hd : 5 ≤ d) (hq : kd q = 1) (hp : kd p = 2) (fu : Nat) (hs : 0 ≤ s ∧ s ≤ 2000) (hm : 2000 - s < (fu : Int)) : CJ jCls jown l G (Yx mX1_writePrint) d 0 0 9 [some (.ref q), some (.ref p), some (vi s), none, none] [] σ (det none (c_writePrintL q p fu s σ)) := by
  induction fu generalizing σ s with
  | zero => exact absurd hm (by omega)
  | succ fu ih =>
    refine C_iload_n dX1_writePrint_9 rfl ?_
    refine C_aload_n dX1_writePrint_10 rfl ?_
    refine D_callV (As := []) (d' := 1) (t_segmentCount hw (Nat.le_refl _) hp) dX1_writePrint_11 v_X1_31 (fun h hc => ⟨_, hc.2.1 _ hp⟩) rfl (Nat.le_of_ble_eq_true rfl) (by omega) (Nat.le_of_ble_eq_true rfl) ?_
    simp only [Option.toList, List.nil_append, List.cons_append]
    have r_11 := r_segmentCount (p := p) hw hp
    refine C_icmp_ge (tgt := 82) dX1_writePrint_14 (by decide) (by omega) (by omega) (fun c_14 => ?_) (fun c_14 => ?_)
    · refine C_vret dX1_writePrint_82 rfl ⟨rfl, ?_⟩
      rw [c_writePrintL, if_pos (by omega)]
    · refine C_aload_n dX1_writePrint_17 rfl ?_
      refine C_aload_n dX1_writePrint_18 rfl ?_
      refine C_iload_n dX1_writePrint_19 rfl ?_
      refine D_callV (As := [vi _]) (d' := 1) (t_tagOf hw (Nat.le_refl _) hp (by omega)) dX1_writePrint_20 v_X1_36 (fun h hc => ⟨_, hc.2.1 _ hp⟩) rfl (Nat.le_of_ble_eq_true rfl) (by omega) (Nat.le_of_ble_eq_true rfl) ?_
      simp only [Option.toList, List.nil_append, List.cons_append]
      have r_20 := tagOf2 hw hp s
      refine D_callV (As := [vi _]) (d' := 1) (t_putTag hw (Nat.le_refl _) hq (by omega)) dX1_writePrint_23 v_X1_39 (fun h hc => ⟨_, hc.2.2.2.2.2.1 _ hq⟩) rfl (Nat.le_of_ble_eq_true rfl) (by omega) (Nat.le_of_ble_eq_true rfl) ?_
      simp only [Option.toList, List.nil_append, List.cons_append]
      have hw2 : wf (c_putTag σ q (c_tagOf σ p s)) := w_putTag hw hq (by omega)
      refine C_aload_n dX1_writePrint_26 rfl ?_
      refine C_iload_n dX1_writePrint_27 rfl ?_
      refine D_callV (As := [vi _]) (d' := 2) (t_filledElementEnd hw2 (Nat.le_refl _) hp (by omega)) dX1_writePrint_28 v_X1_42 (fun h hc => ⟨_, hc.2.1 _ hp⟩) rfl (Nat.le_of_ble_eq_true rfl) (by omega) (Nat.le_of_ble_eq_true rfl) ?_
      simp only [Option.toList, List.nil_append, List.cons_append]
      have r_28 := r_filledElementEnd (p := p) (s := s) hw2 hp (by omega)
      refine C_istore_n dX1_writePrint_31 (by decide) rfl ?_
      simp only [List.set_cons_zero, List.set_cons_succ, jfin0, jfin1, jfin2, jfin3]
      refine C_aload_n dX1_writePrint_32 rfl ?_
      refine C_iload_n dX1_writePrint_33 rfl ?_
      refine D_callV (As := [vi _]) (d' := 1) (t_firstElement hw2 (Nat.le_refl _) hp (by omega)) dX1_writePrint_34 v_X1_45 (fun h hc => ⟨_, hc.2.1 _ hp⟩) rfl (Nat.le_of_ble_eq_true rfl) (by omega) (Nat.le_of_ble_eq_true rfl) ?_
      simp only [Option.toList, List.nil_append, List.cons_append]
      have r_34 := r_firstElement (p := p) (i := s) hw2 hp (by omega)
      refine C_istore dX1_writePrint_37 (by decide) rfl ?_
      simp only [List.set_cons_zero, List.set_cons_succ, jfin0, jfin1, jfin2, jfin3]
      refine CJ.mono (ls' := [some (.ref q), some (.ref p), some (vi s), some (vi (c_filledElementEnd (c_putTag σ q (c_tagOf σ p s)) p s)), some (vi (c_firstElement (c_putTag σ q (c_tagOf σ p s)) p s))]) (lsub_ok (by repeat (first | exact trivial | refine ⟨rfl, ?_⟩))) (fun _ _ q => q) ?_
      refine t_writePrintI hw2 hd hq hp (by omega) (by omega) (400003001) (by omega) (by omega) ?_
      have hw3 : wf (c_writePrintI q p s (c_filledElementEnd (c_putTag σ q (c_tagOf σ p s)) p s) (400003001) (c_firstElement (c_putTag σ q (c_tagOf σ p s)) p s) (c_putTag σ q (c_tagOf σ p s))) := w_writePrintI (q := q) (p := p) (s := s) (n := (c_filledElementEnd (c_putTag σ q (c_tagOf σ p s)) p s)) (k := (c_firstElement (c_putTag σ q (c_tagOf σ p s)) p s)) hw2 hq hp (by omega) (by omega) (400003001) (by omega)
      refine C_aload_n dX1_writePrint_67 rfl ?_
      refine C_get dX1_writePrint_68 f_X1_14 (fun h hc => ⟨_, hc.2.2.2.2.2.1 _ hq, rfl⟩) ?_
      refine C_bipush dX1_writePrint_71 (by decide) ?_
      refine D_callV (As := [vi _]) (d' := 0) (row_add hw3 (kQ1 hq) (by omega)) dX1_writePrint_73 v_X1_48 (fun h hc => ⟨_, (hc.1 _ (kQ1 hq)).1⟩) rfl (Nat.le_of_ble_eq_true rfl) (by omega) (Nat.le_of_ble_eq_true rfl) ?_
      simp only [Option.toList, List.nil_append, List.cons_append]
      have hw4 : wf (cadd (c_writePrintI q p s (c_filledElementEnd (c_putTag σ q (c_tagOf σ p s)) p s) (400003001) (c_firstElement (c_putTag σ q (c_tagOf σ p s)) p s) (c_putTag σ q (c_tagOf σ p s))) (q + 1) 39) := wf_add hw3 (by omega)
      refine C_iinc dX1_writePrint_76 rfl (by decide) rfl ?_
      simp only [List.set_cons_zero, List.set_cons_succ]
      refine C_goto (tgt := 9) dX1_writePrint_79 (by decide) ?_
      rw [c_writePrintL, if_neg (by omega)]
      refine CJ.mono (ls' := [some (.ref q), some (.ref p), some (vi (s + 1)), none, none]) (lsub_ok (by repeat (first | exact trivial | refine ⟨rfl, ?_⟩))) (fun _ _ q => q) ?_
      exact ih hw4 (by omega) (by omega)
theorem t_writePrint {l : Launch} {G : jG} {d : Nat} {σ : cS} {q : Nat} {p : Nat} (hw : wf σ) (hd : 5 ≤ d) (hq : kd q = 1) (hp : kd p = 2) : CJ jCls jown l G (Yx mX1_writePrint) d 0 0 0 [some (.ref q), some (.ref p), none, none, none] [] σ (det none (c_writePrint σ q p)) := by
  refine C_aload_n dX1_writePrint_0 rfl ?_
  refine C_get dX1_writePrint_1 f_X1_14 (fun h hc => ⟨_, hc.2.2.2.2.2.1 _ hq, rfl⟩) ?_
  refine D_callV (As := []) (d' := 0) (row_empty hw (kQ1 hq)) dX1_writePrint_4 v_X1_28 (fun h hc => ⟨_, (hc.1 _ (kQ1 hq)).1⟩) rfl (Nat.le_of_ble_eq_true rfl) (by omega) (Nat.le_of_ble_eq_true rfl) ?_
  simp only [Option.toList, List.nil_append, List.cons_append]
  have hw1 : wf (cemp σ (q + 1)) := wf_emp hw
  refine C_iconst dX1_writePrint_7 ?_
  refine C_istore_n dX1_writePrint_8 (by decide) rfl ?_
  simp only [List.set_cons_zero, List.set_cons_succ, jfin0, jfin1, jfin2, jfin3]
  rw [c_writePrint]
  refine CJ.mono (ls' := [some (.ref q), some (.ref p), some (vi 0), none, none]) (lsub_ok (by repeat (first | exact trivial | refine ⟨rfl, ?_⟩))) (fun _ _ q => q) ?_
  exact t_writePrintL hw1 hd hq hp (2001) (by omega) (by omega)
theorem w_writePrintL {σ : cS} {q : Nat} {p : Nat} {s : Int} (hw : wf σ) (hq : kd q = 1) (hp : kd p = 2) (fu : Nat) (hs : 0 ≤ s ∧ s ≤ 2000) : wf (c_writePrintL q p fu s σ) := by
  induction fu generalizing σ s with
  | zero => exact hw
  | succ fu ih =>
    unfold c_writePrintL
    split
    · have r_11 := r_segmentCount (p := p) hw hp
      exact hw
    · have r_11 := r_segmentCount (p := p) hw hp
      have r_20 := tagOf2 hw hp s
      have hw2 : wf (c_putTag σ q (c_tagOf σ p s)) := w_putTag hw hq (by omega)
      have r_28 := r_filledElementEnd (p := p) (s := s) hw2 hp (by omega)
      have r_34 := r_firstElement (p := p) (i := s) hw2 hp (by omega)
      have hw3 : wf (c_writePrintI q p s (c_filledElementEnd (c_putTag σ q (c_tagOf σ p s)) p s) (400003001) (c_firstElement (c_putTag σ q (c_tagOf σ p s)) p s) (c_putTag σ q (c_tagOf σ p s))) := w_writePrintI (q := q) (p := p) (s := s) (n := (c_filledElementEnd (c_putTag σ q (c_tagOf σ p s)) p s)) (k := (c_firstElement (c_putTag σ q (c_tagOf σ p s)) p s)) hw2 hq hp (by omega) (by omega) (400003001) (by omega)
      have hw4 : wf (cadd (c_writePrintI q p s (c_filledElementEnd (c_putTag σ q (c_tagOf σ p s)) p s) (400003001) (c_firstElement (c_putTag σ q (c_tagOf σ p s)) p s) (c_putTag σ q (c_tagOf σ p s))) (q + 1) 39) := wf_add hw3 (by omega)
      exact ih hw4 (by omega)
theorem w_writePrint {σ : cS} {q : Nat} {p : Nat} (hw : wf σ) (hq : kd q = 1) (hp : kd p = 2) : wf (c_writePrint σ q p) := by
  unfold c_writePrint
  have hw1 : wf (cemp σ (q + 1)) := wf_emp hw
  exact w_writePrintL hw1 hq hp (2001) (by omega)
def c_writeReportL (q : Nat) (e : Nat) : Nat → Int → Int → cS → cS
  | 0, _, _, σ => σ
  | fu + 1, g, j, σ => (if (c_messageCount σ e) ≤ j then σ else (if (c_ofMessage σ e j 3) = g then (if (c_ofMessage σ e j 0) = 0 then (c_writeReportL q e fu g (j + 1) (cadd (c_putVerdict σ q 5587789 (e + 1) (c_referenceOfMessage σ e j) (c_ofMessage σ e j 0)) (q + 1) 39)) else (c_writeReportL q e fu g (j + 1) (cadd (c_putNumber (cadd (c_putVerdict σ q 5587789 (e + 1) (c_referenceOfMessage σ e j) (c_ofMessage σ e j 0)) (q + 1) 43) q (c_ofMessage (cadd (c_putVerdict σ q 5587789 (e + 1) (c_referenceOfMessage σ e j) (c_ofMessage σ e j 0)) (q + 1) 43) e j 1)) (q + 1) 39))) else (if (c_ofMessage (cadd (c_putVerdict σ q 5587782 (e + 1) (c_referenceOfGroup σ e (c_ofMessage σ e j 3)) (c_codeOfGroup σ e (c_ofMessage σ e j 3))) (q + 1) 39) e j 0) = 0 then (c_writeReportL q e fu (c_ofMessage σ e j 3) (j + 1) (cadd (c_putVerdict (cadd (c_putVerdict σ q 5587782 (e + 1) (c_referenceOfGroup σ e (c_ofMessage σ e j 3)) (c_codeOfGroup σ e (c_ofMessage σ e j 3))) (q + 1) 39) q 5587789 (e + 1) (c_referenceOfMessage (cadd (c_putVerdict σ q 5587782 (e + 1) (c_referenceOfGroup σ e (c_ofMessage σ e j 3)) (c_codeOfGroup σ e (c_ofMessage σ e j 3))) (q + 1) 39) e j) (c_ofMessage (cadd (c_putVerdict σ q 5587782 (e + 1) (c_referenceOfGroup σ e (c_ofMessage σ e j 3)) (c_codeOfGroup σ e (c_ofMessage σ e j 3))) (q + 1) 39) e j 0)) (q + 1) 39)) else (c_writeReportL q e fu (c_ofMessage σ e j 3) (j + 1) (cadd (c_putNumber (cadd (c_putVerdict (cadd (c_putVerdict σ q 5587782 (e + 1) (c_referenceOfGroup σ e (c_ofMessage σ e j 3)) (c_codeOfGroup σ e (c_ofMessage σ e j 3))) (q + 1) 39) q 5587789 (e + 1) (c_referenceOfMessage (cadd (c_putVerdict σ q 5587782 (e + 1) (c_referenceOfGroup σ e (c_ofMessage σ e j 3)) (c_codeOfGroup σ e (c_ofMessage σ e j 3))) (q + 1) 39) e j) (c_ofMessage (cadd (c_putVerdict σ q 5587782 (e + 1) (c_referenceOfGroup σ e (c_ofMessage σ e j 3)) (c_codeOfGroup σ e (c_ofMessage σ e j 3))) (q + 1) 39) e j 0)) (q + 1) 43) q (c_ofMessage (cadd (c_putVerdict (cadd (c_putVerdict σ q 5587782 (e + 1) (c_referenceOfGroup σ e (c_ofMessage σ e j 3)) (c_codeOfGroup σ e (c_ofMessage σ e j 3))) (q + 1) 39) q 5587789 (e + 1) (c_referenceOfMessage (cadd (c_putVerdict σ q 5587782 (e + 1) (c_referenceOfGroup σ e (c_ofMessage σ e j 3)) (c_codeOfGroup σ e (c_ofMessage σ e j 3))) (q + 1) 39) e j) (c_ofMessage (cadd (c_putVerdict σ q 5587782 (e + 1) (c_referenceOfGroup σ e (c_ofMessage σ e j 3)) (c_codeOfGroup σ e (c_ofMessage σ e j 3))) (q + 1) 39) e j 0)) (q + 1) 43) e j 1)) (q + 1) 39)))))
def c_writeReport (σ : cS) (q : Nat) (e : Nat) : cS := (c_writeReportL q e (2001) (-1) 0 (cadd (c_putVerdict (cemp σ (q + 1)) q 5587785 (e + 1) (c_reference (cemp σ (q + 1)) e) (c_ecode (cemp σ (q + 1)) e)) (q + 1) 39))
theorem t_writeReportL {l : Launch} {G : jG} {d : Nat} {σ : cS} {q : Nat} {e : Nat} {g j : Int} (hw : wf σ) (hd : 5 ≤ d) (hq : kd q = 1) (he : kd e = 0) (fu : Nat) (hg : -400000000 ≤ g ∧ g < 400000000) (hj : 0 ≤ j ∧ j ≤ 2000) (hm : 2000 - j < (fu : Int)) : CJ jCls jown l G (Yx mX1_writeReport) d 0 0 41 [some (.ref q), some (.ref e), some (.ref (e + 1)), some (vi g), some (vi j), none] [] σ (det none (c_writeReportL q e fu g j σ)) := by
  induction fu generalizing σ g j with
  | zero => exact absurd hm (by omega)
  | succ fu ih =>
    refine C_iload dX1_writeReport_41 rfl ?_
    refine C_aload_n dX1_writeReport_43 rfl ?_
    refine D_callV (As := []) (d' := 1) (t_messageCount hw (Nat.le_refl _) he) dX1_writeReport_44 v_X1_72 (fun h hc => ⟨_, hc.2.2.1 _ he⟩) rfl (Nat.le_of_ble_eq_true rfl) (by omega) (Nat.le_of_ble_eq_true rfl) ?_
    simp only [Option.toList, List.nil_append, List.cons_append]
    have r_44 := r_messageCount (e := e) hw he
    refine C_icmp_ge (tgt := 163) dX1_writeReport_47 (by decide) (by omega) (by omega) (fun c_47 => ?_) (fun c_47 => ?_)
    · refine C_vret dX1_writeReport_163 rfl ⟨rfl, ?_⟩
      rw [c_writeReportL, if_pos (by omega)]
    · refine C_aload_n dX1_writeReport_50 rfl ?_
      refine C_iload dX1_writeReport_51 rfl ?_
      refine C_iconst dX1_writeReport_53 ?_
      refine D_callV (As := [vi _, vi _]) (d' := 1) (t_ofMessage hw (Nat.le_refl _) he (by omega) (by omega)) dX1_writeReport_54 v_X1_75 (fun h hc => ⟨_, hc.2.2.1 _ he⟩) rfl (Nat.le_of_ble_eq_true rfl) (by omega) (Nat.le_of_ble_eq_true rfl) ?_
      simp only [Option.toList, List.nil_append, List.cons_append]
      have r_54 := r_ofMessage (e := e) (j := j) (x := 3) hw he (by omega) (by omega)
      refine C_iload_n dX1_writeReport_57 rfl ?_
      refine C_icmp_eq (tgt := 99) dX1_writeReport_58 (by decide) (by omega) (by omega) (fun c_58 => ?_) (fun c_58 => ?_)
      · refine C_aload_n dX1_writeReport_99 rfl ?_
        refine C_iload dX1_writeReport_100 rfl ?_
        refine C_iconst dX1_writeReport_102 ?_
        refine D_callV (As := [vi _, vi _]) (d' := 1) (t_ofMessage hw (Nat.le_refl _) he (by omega) (by omega)) dX1_writeReport_103 v_X1_75 (fun h hc => ⟨_, hc.2.2.1 _ he⟩) rfl (Nat.le_of_ble_eq_true rfl) (by omega) (Nat.le_of_ble_eq_true rfl) ?_
        simp only [Option.toList, List.nil_append, List.cons_append]
        have r_103 := r_ofMessage (e := e) (j := j) (x := 0) hw he (by omega) (by omega)
        refine C_istore dX1_writeReport_106 (by decide) rfl ?_
        simp only [List.set_cons_zero, List.set_cons_succ, jfin0, jfin1, jfin2, jfin3]
        refine C_aload_n dX1_writeReport_108 rfl ?_
        refine C_ldc (5587789) dX1_writeReport_109 k_X1_86 ?_
        refine C_aload_n dX1_writeReport_111 rfl ?_
        refine C_aload_n dX1_writeReport_112 rfl ?_
        refine C_iload dX1_writeReport_113 rfl ?_
        refine D_callV (As := [vi _]) (d' := 3) (t_referenceOfMessage hw (Nat.le_refl _) he (by omega)) dX1_writeReport_115 v_X1_87 (fun h hc => ⟨_, hc.2.2.1 _ he⟩) rfl (Nat.le_of_ble_eq_true rfl) (by omega) (Nat.le_of_ble_eq_true rfl) ?_
        simp only [Option.toList, List.nil_append, List.cons_append]
        have r_115 := r_referenceOfMessage (e := e) (j := j) hw he (by omega)
        refine C_iload dX1_writeReport_118 rfl ?_
        refine D_callV (As := [vi _, .ref _, vi _, vi _]) (d' := 4) (t_putVerdict hw (Nat.le_refl _) hq (by omega) (kE1 he) (by omega) (by omega)) dX1_writeReport_120 v_X1_68 (fun h hc => ⟨_, hc.2.2.2.2.2.1 _ hq⟩) rfl (Nat.le_of_ble_eq_true rfl) (by omega) (Nat.le_of_ble_eq_true rfl) ?_
        simp only [Option.toList, List.nil_append, List.cons_append]
        have hw3 : wf (c_putVerdict σ q 5587789 (e + 1) (c_referenceOfMessage σ e j) (c_ofMessage σ e j 0)) := w_putVerdict hw hq (by omega) (kE1 he) (by omega) (by omega)
        refine C_iload dX1_writeReport_123 rfl ?_
        refine C_if_eq (tgt := 148) dX1_writeReport_125 (by decide) (by omega) (fun c_125 => ?_) (fun c_125 => ?_)
        · refine C_aload_n dX1_writeReport_148 rfl ?_
          refine C_get dX1_writeReport_149 f_X1_14 (fun h hc => ⟨_, hc.2.2.2.2.2.1 _ hq, rfl⟩) ?_
          refine C_bipush dX1_writeReport_152 (by decide) ?_
          refine D_callV (As := [vi _]) (d' := 0) (row_add hw3 (kQ1 hq) (by omega)) dX1_writeReport_154 v_X1_48 (fun h hc => ⟨_, (hc.1 _ (kQ1 hq)).1⟩) rfl (Nat.le_of_ble_eq_true rfl) (by omega) (Nat.le_of_ble_eq_true rfl) ?_
          simp only [Option.toList, List.nil_append, List.cons_append]
          have hw5 : wf (cadd (c_putVerdict σ q 5587789 (e + 1) (c_referenceOfMessage σ e j) (c_ofMessage σ e j 0)) (q + 1) 39) := wf_add hw3 (by omega)
          refine C_iinc dX1_writeReport_157 rfl (by decide) rfl ?_
          simp only [List.set_cons_zero, List.set_cons_succ]
          refine C_goto (tgt := 41) dX1_writeReport_160 (by decide) ?_
          rw [c_writeReportL, if_neg (by omega), if_pos (by omega), if_pos (by omega)]
          refine CJ.mono (ls' := [some (.ref q), some (.ref e), some (.ref (e + 1)), some (vi g), some (vi (j + 1)), none]) (lsub_ok (by repeat (first | exact trivial | refine ⟨rfl, ?_⟩))) (fun _ _ q => q) ?_
          exact ih hw5 (by omega) (by omega) (by omega)
        · refine C_aload_n dX1_writeReport_128 rfl ?_
          refine C_get dX1_writeReport_129 f_X1_14 (fun h hc => ⟨_, hc.2.2.2.2.2.1 _ hq, rfl⟩) ?_
          refine C_bipush dX1_writeReport_132 (by decide) ?_
          refine D_callV (As := [vi _]) (d' := 0) (row_add hw3 (kQ1 hq) (by omega)) dX1_writeReport_134 v_X1_48 (fun h hc => ⟨_, (hc.1 _ (kQ1 hq)).1⟩) rfl (Nat.le_of_ble_eq_true rfl) (by omega) (Nat.le_of_ble_eq_true rfl) ?_
          simp only [Option.toList, List.nil_append, List.cons_append]
          have hw6 : wf (cadd (c_putVerdict σ q 5587789 (e + 1) (c_referenceOfMessage σ e j) (c_ofMessage σ e j 0)) (q + 1) 43) := wf_add hw3 (by omega)
          refine C_aload_n dX1_writeReport_137 rfl ?_
          refine C_aload_n dX1_writeReport_138 rfl ?_
          refine C_iload dX1_writeReport_139 rfl ?_
          refine C_iconst dX1_writeReport_141 ?_
          refine D_callV (As := [vi _, vi _]) (d' := 1) (t_ofMessage hw6 (Nat.le_refl _) he (by omega) (by omega)) dX1_writeReport_142 v_X1_75 (fun h hc => ⟨_, hc.2.2.1 _ he⟩) rfl (Nat.le_of_ble_eq_true rfl) (by omega) (Nat.le_of_ble_eq_true rfl) ?_
          simp only [Option.toList, List.nil_append, List.cons_append]
          have r_142 := r_ofMessage (e := e) (j := j) (x := 1) hw6 he (by omega) (by omega)
          refine D_callV (As := [vi _]) (d' := 1) (t_putNumber hw6 (Nat.le_refl _) hq (by omega)) dX1_writeReport_145 v_X1_90 (fun h hc => ⟨_, hc.2.2.2.2.2.1 _ hq⟩) rfl (Nat.le_of_ble_eq_true rfl) (by omega) (Nat.le_of_ble_eq_true rfl) ?_
          simp only [Option.toList, List.nil_append, List.cons_append]
          have hw7 : wf (c_putNumber (cadd (c_putVerdict σ q 5587789 (e + 1) (c_referenceOfMessage σ e j) (c_ofMessage σ e j 0)) (q + 1) 43) q (c_ofMessage (cadd (c_putVerdict σ q 5587789 (e + 1) (c_referenceOfMessage σ e j) (c_ofMessage σ e j 0)) (q + 1) 43) e j 1)) := w_putNumber hw6 hq (by omega)
          refine C_aload_n dX1_writeReport_148 rfl ?_
          refine C_get dX1_writeReport_149 f_X1_14 (fun h hc => ⟨_, hc.2.2.2.2.2.1 _ hq, rfl⟩) ?_
          refine C_bipush dX1_writeReport_152 (by decide) ?_
          refine D_callV (As := [vi _]) (d' := 0) (row_add hw7 (kQ1 hq) (by omega)) dX1_writeReport_154 v_X1_48 (fun h hc => ⟨_, (hc.1 _ (kQ1 hq)).1⟩) rfl (Nat.le_of_ble_eq_true rfl) (by omega) (Nat.le_of_ble_eq_true rfl) ?_
          simp only [Option.toList, List.nil_append, List.cons_append]
          have hw8 : wf (cadd (c_putNumber (cadd (c_putVerdict σ q 5587789 (e + 1) (c_referenceOfMessage σ e j) (c_ofMessage σ e j 0)) (q + 1) 43) q (c_ofMessage (cadd (c_putVerdict σ q 5587789 (e + 1) (c_referenceOfMessage σ e j) (c_ofMessage σ e j 0)) (q + 1) 43) e j 1)) (q + 1) 39) := wf_add hw7 (by omega)
          refine C_iinc dX1_writeReport_157 rfl (by decide) rfl ?_
          simp only [List.set_cons_zero, List.set_cons_succ]
          refine C_goto (tgt := 41) dX1_writeReport_160 (by decide) ?_
          rw [c_writeReportL, if_neg (by omega), if_pos (by omega), if_neg (by omega)]
          refine CJ.mono (ls' := [some (.ref q), some (.ref e), some (.ref (e + 1)), some (vi g), some (vi (j + 1)), none]) (lsub_ok (by repeat (first | exact trivial | refine ⟨rfl, ?_⟩))) (fun _ _ q => q) ?_
          exact ih hw8 (by omega) (by omega) (by omega)
      · refine C_aload_n dX1_writeReport_61 rfl ?_
        refine C_iload dX1_writeReport_62 rfl ?_
        refine C_iconst dX1_writeReport_64 ?_
        refine D_callV (As := [vi _, vi _]) (d' := 1) (t_ofMessage hw (Nat.le_refl _) he (by omega) (by omega)) dX1_writeReport_65 v_X1_75 (fun h hc => ⟨_, hc.2.2.1 _ he⟩) rfl (Nat.le_of_ble_eq_true rfl) (by omega) (Nat.le_of_ble_eq_true rfl) ?_
        simp only [Option.toList, List.nil_append, List.cons_append]
        have r_65 := r_ofMessage (e := e) (j := j) (x := 3) hw he (by omega) (by omega)
        refine C_istore_n dX1_writeReport_68 (by decide) rfl ?_
        simp only [List.set_cons_zero, List.set_cons_succ, jfin0, jfin1, jfin2, jfin3]
        refine C_aload_n dX1_writeReport_69 rfl ?_
        refine C_iload_n dX1_writeReport_70 rfl ?_
        refine D_callV (As := [vi _]) (d' := 3) (t_referenceOfGroup hw (Nat.le_refl _) he (by omega)) dX1_writeReport_71 v_X1_79 (fun h hc => ⟨_, hc.2.2.1 _ he⟩) rfl (Nat.le_of_ble_eq_true rfl) (by omega) (Nat.le_of_ble_eq_true rfl) ?_
        simp only [Option.toList, List.nil_append, List.cons_append]
        have r_71 := r_referenceOfGroup (e := e) (g := (c_ofMessage σ e j 3)) hw he (by omega)
        refine C_istore dX1_writeReport_74 (by decide) rfl ?_
        simp only [List.set_cons_zero, List.set_cons_succ, jfin0, jfin1, jfin2, jfin3]
        refine C_aload_n dX1_writeReport_76 rfl ?_
        refine C_ldc (5587782) dX1_writeReport_77 k_X1_82 ?_
        refine C_aload_n dX1_writeReport_79 rfl ?_
        refine C_iload dX1_writeReport_80 rfl ?_
        refine C_aload_n dX1_writeReport_82 rfl ?_
        refine C_iload_n dX1_writeReport_83 rfl ?_
        refine D_callV (As := [vi _]) (d' := 1) (t_codeOfGroup hw (Nat.le_refl _) he (by omega)) dX1_writeReport_84 v_X1_83 (fun h hc => ⟨_, hc.2.2.1 _ he⟩) rfl (Nat.le_of_ble_eq_true rfl) (by omega) (Nat.le_of_ble_eq_true rfl) ?_
        simp only [Option.toList, List.nil_append, List.cons_append]
        have r_84 := r_codeOfGroup (e := e) (g := (c_ofMessage σ e j 3)) hw he (by omega)
        refine D_callV (As := [vi _, .ref _, vi _, vi _]) (d' := 4) (t_putVerdict hw (Nat.le_refl _) hq (by omega) (kE1 he) (by omega) (by omega)) dX1_writeReport_87 v_X1_68 (fun h hc => ⟨_, hc.2.2.2.2.2.1 _ hq⟩) rfl (Nat.le_of_ble_eq_true rfl) (by omega) (Nat.le_of_ble_eq_true rfl) ?_
        simp only [Option.toList, List.nil_append, List.cons_append]
        have hw9 : wf (c_putVerdict σ q 5587782 (e + 1) (c_referenceOfGroup σ e (c_ofMessage σ e j 3)) (c_codeOfGroup σ e (c_ofMessage σ e j 3))) := w_putVerdict hw hq (by omega) (kE1 he) (by omega) (by omega)
        refine C_aload_n dX1_writeReport_90 rfl ?_
        refine C_get dX1_writeReport_91 f_X1_14 (fun h hc => ⟨_, hc.2.2.2.2.2.1 _ hq, rfl⟩) ?_
        refine C_bipush dX1_writeReport_94 (by decide) ?_
        refine D_callV (As := [vi _]) (d' := 0) (row_add hw9 (kQ1 hq) (by omega)) dX1_writeReport_96 v_X1_48 (fun h hc => ⟨_, (hc.1 _ (kQ1 hq)).1⟩) rfl (Nat.le_of_ble_eq_true rfl) (by omega) (Nat.le_of_ble_eq_true rfl) ?_
        simp only [Option.toList, List.nil_append, List.cons_append]
        have hw10 : wf (cadd (c_putVerdict σ q 5587782 (e + 1) (c_referenceOfGroup σ e (c_ofMessage σ e j 3)) (c_codeOfGroup σ e (c_ofMessage σ e j 3))) (q + 1) 39) := wf_add hw9 (by omega)
        refine C_aload_n dX1_writeReport_99 rfl ?_
        refine C_iload dX1_writeReport_100 rfl ?_
        refine C_iconst dX1_writeReport_102 ?_
        refine D_callV (As := [vi _, vi _]) (d' := 1) (t_ofMessage hw10 (Nat.le_refl _) he (by omega) (by omega)) dX1_writeReport_103 v_X1_75 (fun h hc => ⟨_, hc.2.2.1 _ he⟩) rfl (Nat.le_of_ble_eq_true rfl) (by omega) (Nat.le_of_ble_eq_true rfl) ?_
        simp only [Option.toList, List.nil_append, List.cons_append]
        have r_103 := r_ofMessage (e := e) (j := j) (x := 0) hw10 he (by omega) (by omega)
        refine C_istore dX1_writeReport_106 (by decide) rfl ?_
        simp only [List.set_cons_zero, List.set_cons_succ, jfin0, jfin1, jfin2, jfin3]
        refine C_aload_n dX1_writeReport_108 rfl ?_
        refine C_ldc (5587789) dX1_writeReport_109 k_X1_86 ?_
        refine C_aload_n dX1_writeReport_111 rfl ?_
        refine C_aload_n dX1_writeReport_112 rfl ?_
        refine C_iload dX1_writeReport_113 rfl ?_
        refine D_callV (As := [vi _]) (d' := 3) (t_referenceOfMessage hw10 (Nat.le_refl _) he (by omega)) dX1_writeReport_115 v_X1_87 (fun h hc => ⟨_, hc.2.2.1 _ he⟩) rfl (Nat.le_of_ble_eq_true rfl) (by omega) (Nat.le_of_ble_eq_true rfl) ?_
        simp only [Option.toList, List.nil_append, List.cons_append]
        have r_115 := r_referenceOfMessage (e := e) (j := j) hw10 he (by omega)
        refine C_iload dX1_writeReport_118 rfl ?_
        refine D_callV (As := [vi _, .ref _, vi _, vi _]) (d' := 4) (t_putVerdict hw10 (Nat.le_refl _) hq (by omega) (kE1 he) (by omega) (by omega)) dX1_writeReport_120 v_X1_68 (fun h hc => ⟨_, hc.2.2.2.2.2.1 _ hq⟩) rfl (Nat.le_of_ble_eq_true rfl) (by omega) (Nat.le_of_ble_eq_true rfl) ?_
        simp only [Option.toList, List.nil_append, List.cons_append]
        have hw11 : wf (c_putVerdict (cadd (c_putVerdict σ q 5587782 (e + 1) (c_referenceOfGroup σ e (c_ofMessage σ e j 3)) (c_codeOfGroup σ e (c_ofMessage σ e j 3))) (q + 1) 39) q 5587789 (e + 1) (c_referenceOfMessage (cadd (c_putVerdict σ q 5587782 (e + 1) (c_referenceOfGroup σ e (c_ofMessage σ e j 3)) (c_codeOfGroup σ e (c_ofMessage σ e j 3))) (q + 1) 39) e j) (c_ofMessage (cadd (c_putVerdict σ q 5587782 (e + 1) (c_referenceOfGroup σ e (c_ofMessage σ e j 3)) (c_codeOfGroup σ e (c_ofMessage σ e j 3))) (q + 1) 39) e j 0)) := w_putVerdict hw10 hq (by omega) (kE1 he) (by omega) (by omega)
        refine C_iload dX1_writeReport_123 rfl ?_
        refine C_if_eq (tgt := 148) dX1_writeReport_125 (by decide) (by omega) (fun c_125 => ?_) (fun c_125 => ?_)
        · refine C_aload_n dX1_writeReport_148 rfl ?_
          refine C_get dX1_writeReport_149 f_X1_14 (fun h hc => ⟨_, hc.2.2.2.2.2.1 _ hq, rfl⟩) ?_
          refine C_bipush dX1_writeReport_152 (by decide) ?_
          refine D_callV (As := [vi _]) (d' := 0) (row_add hw11 (kQ1 hq) (by omega)) dX1_writeReport_154 v_X1_48 (fun h hc => ⟨_, (hc.1 _ (kQ1 hq)).1⟩) rfl (Nat.le_of_ble_eq_true rfl) (by omega) (Nat.le_of_ble_eq_true rfl) ?_
          simp only [Option.toList, List.nil_append, List.cons_append]
          have hw13 : wf (cadd (c_putVerdict (cadd (c_putVerdict σ q 5587782 (e + 1) (c_referenceOfGroup σ e (c_ofMessage σ e j 3)) (c_codeOfGroup σ e (c_ofMessage σ e j 3))) (q + 1) 39) q 5587789 (e + 1) (c_referenceOfMessage (cadd (c_putVerdict σ q 5587782 (e + 1) (c_referenceOfGroup σ e (c_ofMessage σ e j 3)) (c_codeOfGroup σ e (c_ofMessage σ e j 3))) (q + 1) 39) e j) (c_ofMessage (cadd (c_putVerdict σ q 5587782 (e + 1) (c_referenceOfGroup σ e (c_ofMessage σ e j 3)) (c_codeOfGroup σ e (c_ofMessage σ e j 3))) (q + 1) 39) e j 0)) (q + 1) 39) := wf_add hw11 (by omega)
          refine C_iinc dX1_writeReport_157 rfl (by decide) rfl ?_
          simp only [List.set_cons_zero, List.set_cons_succ]
          refine C_goto (tgt := 41) dX1_writeReport_160 (by decide) ?_
          rw [c_writeReportL, if_neg (by omega), if_neg (by omega), if_pos (by omega)]
          refine CJ.mono (ls' := [some (.ref q), some (.ref e), some (.ref (e + 1)), some (vi (c_ofMessage σ e j 3)), some (vi (j + 1)), none]) (lsub_ok (by repeat (first | exact trivial | refine ⟨rfl, ?_⟩))) (fun _ _ q => q) ?_
          exact ih hw13 (by omega) (by omega) (by omega)
        · refine C_aload_n dX1_writeReport_128 rfl ?_
          refine C_get dX1_writeReport_129 f_X1_14 (fun h hc => ⟨_, hc.2.2.2.2.2.1 _ hq, rfl⟩) ?_
          refine C_bipush dX1_writeReport_132 (by decide) ?_
          refine D_callV (As := [vi _]) (d' := 0) (row_add hw11 (kQ1 hq) (by omega)) dX1_writeReport_134 v_X1_48 (fun h hc => ⟨_, (hc.1 _ (kQ1 hq)).1⟩) rfl (Nat.le_of_ble_eq_true rfl) (by omega) (Nat.le_of_ble_eq_true rfl) ?_
          simp only [Option.toList, List.nil_append, List.cons_append]
          have hw14 : wf (cadd (c_putVerdict (cadd (c_putVerdict σ q 5587782 (e + 1) (c_referenceOfGroup σ e (c_ofMessage σ e j 3)) (c_codeOfGroup σ e (c_ofMessage σ e j 3))) (q + 1) 39) q 5587789 (e + 1) (c_referenceOfMessage (cadd (c_putVerdict σ q 5587782 (e + 1) (c_referenceOfGroup σ e (c_ofMessage σ e j 3)) (c_codeOfGroup σ e (c_ofMessage σ e j 3))) (q + 1) 39) e j) (c_ofMessage (cadd (c_putVerdict σ q 5587782 (e + 1) (c_referenceOfGroup σ e (c_ofMessage σ e j 3)) (c_codeOfGroup σ e (c_ofMessage σ e j 3))) (q + 1) 39) e j 0)) (q + 1) 43) := wf_add hw11 (by omega)
          refine C_aload_n dX1_writeReport_137 rfl ?_
          refine C_aload_n dX1_writeReport_138 rfl ?_
          refine C_iload dX1_writeReport_139 rfl ?_
          refine C_iconst dX1_writeReport_141 ?_
          refine D_callV (As := [vi _, vi _]) (d' := 1) (t_ofMessage hw14 (Nat.le_refl _) he (by omega) (by omega)) dX1_writeReport_142 v_X1_75 (fun h hc => ⟨_, hc.2.2.1 _ he⟩) rfl (Nat.le_of_ble_eq_true rfl) (by omega) (Nat.le_of_ble_eq_true rfl) ?_
          simp only [Option.toList, List.nil_append, List.cons_append]
          have r_142 := r_ofMessage (e := e) (j := j) (x := 1) hw14 he (by omega) (by omega)
          refine D_callV (As := [vi _]) (d' := 1) (t_putNumber hw14 (Nat.le_refl _) hq (by omega)) dX1_writeReport_145 v_X1_90 (fun h hc => ⟨_, hc.2.2.2.2.2.1 _ hq⟩) rfl (Nat.le_of_ble_eq_true rfl) (by omega) (Nat.le_of_ble_eq_true rfl) ?_
          simp only [Option.toList, List.nil_append, List.cons_append]
          have hw15 : wf (c_putNumber (cadd (c_putVerdict (cadd (c_putVerdict σ q 5587782 (e + 1) (c_referenceOfGroup σ e (c_ofMessage σ e j 3)) (c_codeOfGroup σ e (c_ofMessage σ e j 3))) (q + 1) 39) q 5587789 (e + 1) (c_referenceOfMessage (cadd (c_putVerdict σ q 5587782 (e + 1) (c_referenceOfGroup σ e (c_ofMessage σ e j 3)) (c_codeOfGroup σ e (c_ofMessage σ e j 3))) (q + 1) 39) e j) (c_ofMessage (cadd (c_putVerdict σ q 5587782 (e + 1) (c_referenceOfGroup σ e (c_ofMessage σ e j 3)) (c_codeOfGroup σ e (c_ofMessage σ e j 3))) (q + 1) 39) e j 0)) (q + 1) 43) q (c_ofMessage (cadd (c_putVerdict (cadd (c_putVerdict σ q 5587782 (e + 1) (c_referenceOfGroup σ e (c_ofMessage σ e j 3)) (c_codeOfGroup σ e (c_ofMessage σ e j 3))) (q + 1) 39) q 5587789 (e + 1) (c_referenceOfMessage (cadd (c_putVerdict σ q 5587782 (e + 1) (c_referenceOfGroup σ e (c_ofMessage σ e j 3)) (c_codeOfGroup σ e (c_ofMessage σ e j 3))) (q + 1) 39) e j) (c_ofMessage (cadd (c_putVerdict σ q 5587782 (e + 1) (c_referenceOfGroup σ e (c_ofMessage σ e j 3)) (c_codeOfGroup σ e (c_ofMessage σ e j 3))) (q + 1) 39) e j 0)) (q + 1) 43) e j 1)) := w_putNumber hw14 hq (by omega)
          refine C_aload_n dX1_writeReport_148 rfl ?_
          refine C_get dX1_writeReport_149 f_X1_14 (fun h hc => ⟨_, hc.2.2.2.2.2.1 _ hq, rfl⟩) ?_
          refine C_bipush dX1_writeReport_152 (by decide) ?_
          refine D_callV (As := [vi _]) (d' := 0) (row_add hw15 (kQ1 hq) (by omega)) dX1_writeReport_154 v_X1_48 (fun h hc => ⟨_, (hc.1 _ (kQ1 hq)).1⟩) rfl (Nat.le_of_ble_eq_true rfl) (by omega) (Nat.le_of_ble_eq_true rfl) ?_
          simp only [Option.toList, List.nil_append, List.cons_append]
          have hw16 : wf (cadd (c_putNumber (cadd (c_putVerdict (cadd (c_putVerdict σ q 5587782 (e + 1) (c_referenceOfGroup σ e (c_ofMessage σ e j 3)) (c_codeOfGroup σ e (c_ofMessage σ e j 3))) (q + 1) 39) q 5587789 (e + 1) (c_referenceOfMessage (cadd (c_putVerdict σ q 5587782 (e + 1) (c_referenceOfGroup σ e (c_ofMessage σ e j 3)) (c_codeOfGroup σ e (c_ofMessage σ e j 3))) (q + 1) 39) e j) (c_ofMessage (cadd (c_putVerdict σ q 5587782 (e + 1) (c_referenceOfGroup σ e (c_ofMessage σ e j 3)) (c_codeOfGroup σ e (c_ofMessage σ e j 3))) (q + 1) 39) e j 0)) (q + 1) 43) q (c_ofMessage (cadd (c_putVerdict (cadd (c_putVerdict σ q 5587782 (e + 1) (c_referenceOfGroup σ e (c_ofMessage σ e j 3)) (c_codeOfGroup σ e (c_ofMessage σ e j 3))) (q + 1) 39) q 5587789 (e + 1) (c_referenceOfMessage (cadd (c_putVerdict σ q 5587782 (e + 1) (c_referenceOfGroup σ e (c_ofMessage σ e j 3)) (c_codeOfGroup σ e (c_ofMessage σ e j 3))) (q + 1) 39) e j) (c_ofMessage (cadd (c_putVerdict σ q 5587782 (e + 1) (c_referenceOfGroup σ e (c_ofMessage σ e j 3)) (c_codeOfGroup σ e (c_ofMessage σ e j 3))) (q + 1) 39) e j 0)) (q + 1) 43) e j 1)) (q + 1) 39) := wf_add hw15 (by omega)
          refine C_iinc dX1_writeReport_157 rfl (by decide) rfl ?_
          simp only [List.set_cons_zero, List.set_cons_succ]
          refine C_goto (tgt := 41) dX1_writeReport_160 (by decide) ?_
          rw [c_writeReportL, if_neg (by omega), if_neg (by omega), if_neg (by omega)]
          refine CJ.mono (ls' := [some (.ref q), some (.ref e), some (.ref (e + 1)), some (vi (c_ofMessage σ e j 3)), some (vi (j + 1)), none]) (lsub_ok (by repeat (first | exact trivial | refine ⟨rfl, ?_⟩))) (fun _ _ q => q) ?_
          exact ih hw16 (by omega) (by omega) (by omega)
theorem t_writeReport {l : Launch} {G : jG} {d : Nat} {σ : cS} {q : Nat} {e : Nat} (hw : wf σ) (hd : 5 ≤ d) (hq : kd q = 1) (he : kd e = 0) : CJ jCls jown l G (Yx mX1_writeReport) d 0 0 0 [some (.ref q), some (.ref e), none, none, none, none] [] σ (det none (c_writeReport σ q e)) := by
  refine C_aload_n dX1_writeReport_0 rfl ?_
  refine C_get dX1_writeReport_1 f_X1_55 (fun h hc => ⟨_, hc.2.2.1 _ he, rfl⟩) ?_
  refine C_astore_n dX1_writeReport_4 (by decide) rfl ?_
  simp only [List.set_cons_zero, List.set_cons_succ, jfin0, jfin1, jfin2, jfin3]
  refine C_aload_n dX1_writeReport_5 rfl ?_
  refine C_get dX1_writeReport_6 f_X1_14 (fun h hc => ⟨_, hc.2.2.2.2.2.1 _ hq, rfl⟩) ?_
  refine D_callV (As := []) (d' := 0) (row_empty hw (kQ1 hq)) dX1_writeReport_9 v_X1_28 (fun h hc => ⟨_, (hc.1 _ (kQ1 hq)).1⟩) rfl (Nat.le_of_ble_eq_true rfl) (by omega) (Nat.le_of_ble_eq_true rfl) ?_
  simp only [Option.toList, List.nil_append, List.cons_append]
  have hw1 : wf (cemp σ (q + 1)) := wf_emp hw
  refine C_aload_n dX1_writeReport_12 rfl ?_
  refine C_ldc (5587785) dX1_writeReport_13 k_X1_61 ?_
  refine C_aload_n dX1_writeReport_15 rfl ?_
  refine C_aload_n dX1_writeReport_16 rfl ?_
  refine D_callV (As := []) (d' := 3) (t_reference hw1 (Nat.le_refl _) he) dX1_writeReport_17 v_X1_62 (fun h hc => ⟨_, hc.2.2.1 _ he⟩) rfl (Nat.le_of_ble_eq_true rfl) (by omega) (Nat.le_of_ble_eq_true rfl) ?_
  simp only [Option.toList, List.nil_append, List.cons_append]
  have r_17 := r_reference (e := e) hw1 he
  refine C_aload_n dX1_writeReport_20 rfl ?_
  refine D_callV (As := []) (d' := 0) (t_ecode hw1 (Nat.le_refl _) he) dX1_writeReport_21 v_X1_65 (fun h hc => ⟨_, hc.2.2.1 _ he⟩) rfl (Nat.le_of_ble_eq_true rfl) (by omega) (Nat.le_of_ble_eq_true rfl) ?_
  simp only [Option.toList, List.nil_append, List.cons_append]
  have r_21 := r_ecode (e := e) hw1 he
  refine D_callV (As := [vi _, .ref _, vi _, vi _]) (d' := 4) (t_putVerdict hw1 (Nat.le_refl _) hq (by omega) (kE1 he) (by omega) (by omega)) dX1_writeReport_24 v_X1_68 (fun h hc => ⟨_, hc.2.2.2.2.2.1 _ hq⟩) rfl (Nat.le_of_ble_eq_true rfl) (by omega) (Nat.le_of_ble_eq_true rfl) ?_
  simp only [Option.toList, List.nil_append, List.cons_append]
  have hw2 : wf (c_putVerdict (cemp σ (q + 1)) q 5587785 (e + 1) (c_reference (cemp σ (q + 1)) e) (c_ecode (cemp σ (q + 1)) e)) := w_putVerdict hw1 hq (by omega) (kE1 he) (by omega) (by omega)
  refine C_aload_n dX1_writeReport_27 rfl ?_
  refine C_get dX1_writeReport_28 f_X1_14 (fun h hc => ⟨_, hc.2.2.2.2.2.1 _ hq, rfl⟩) ?_
  refine C_bipush dX1_writeReport_31 (by decide) ?_
  refine D_callV (As := [vi _]) (d' := 0) (row_add hw2 (kQ1 hq) (by omega)) dX1_writeReport_33 v_X1_48 (fun h hc => ⟨_, (hc.1 _ (kQ1 hq)).1⟩) rfl (Nat.le_of_ble_eq_true rfl) (by omega) (Nat.le_of_ble_eq_true rfl) ?_
  simp only [Option.toList, List.nil_append, List.cons_append]
  have hw3 : wf (cadd (c_putVerdict (cemp σ (q + 1)) q 5587785 (e + 1) (c_reference (cemp σ (q + 1)) e) (c_ecode (cemp σ (q + 1)) e)) (q + 1) 39) := wf_add hw2 (by omega)
  refine C_iconst dX1_writeReport_36 ?_
  refine C_istore_n dX1_writeReport_37 (by decide) rfl ?_
  simp only [List.set_cons_zero, List.set_cons_succ, jfin0, jfin1, jfin2, jfin3]
  refine C_iconst dX1_writeReport_38 ?_
  refine C_istore dX1_writeReport_39 (by decide) rfl ?_
  simp only [List.set_cons_zero, List.set_cons_succ, jfin0, jfin1, jfin2, jfin3]
  rw [c_writeReport]
  refine CJ.mono (ls' := [some (.ref q), some (.ref e), some (.ref (e + 1)), some (vi (-1)), some (vi 0), none]) (lsub_ok (by repeat (first | exact trivial | refine ⟨rfl, ?_⟩))) (fun _ _ q => q) ?_
  exact t_writeReportL hw3 hd hq he (2001) (by omega) (by omega) (by omega)
theorem w_writeReportL {σ : cS} {q : Nat} {e : Nat} {g j : Int} (hw : wf σ) (hq : kd q = 1) (he : kd e = 0) (fu : Nat) (hg : -400000000 ≤ g ∧ g < 400000000) (hj : 0 ≤ j ∧ j ≤ 2000) : wf (c_writeReportL q e fu g j σ) := by
  induction fu generalizing σ g j with
  | zero => exact hw
  | succ fu ih =>
    unfold c_writeReportL
    split
    · have r_44 := r_messageCount (e := e) hw he
      exact hw
    · split
      · split
        · have r_44 := r_messageCount (e := e) hw he
          have r_54 := r_ofMessage (e := e) (j := j) (x := 3) hw he (by omega) (by omega)
          have r_103 := r_ofMessage (e := e) (j := j) (x := 0) hw he (by omega) (by omega)
          have r_115 := r_referenceOfMessage (e := e) (j := j) hw he (by omega)
          have hw3 : wf (c_putVerdict σ q 5587789 (e + 1) (c_referenceOfMessage σ e j) (c_ofMessage σ e j 0)) := w_putVerdict hw hq (by omega) (kE1 he) (by omega) (by omega)
          have hw5 : wf (cadd (c_putVerdict σ q 5587789 (e + 1) (c_referenceOfMessage σ e j) (c_ofMessage σ e j 0)) (q + 1) 39) := wf_add hw3 (by omega)
          exact ih hw5 (by omega) (by omega)
        · have r_44 := r_messageCount (e := e) hw he
          have r_54 := r_ofMessage (e := e) (j := j) (x := 3) hw he (by omega) (by omega)
          have r_103 := r_ofMessage (e := e) (j := j) (x := 0) hw he (by omega) (by omega)
          have r_115 := r_referenceOfMessage (e := e) (j := j) hw he (by omega)
          have hw3 : wf (c_putVerdict σ q 5587789 (e + 1) (c_referenceOfMessage σ e j) (c_ofMessage σ e j 0)) := w_putVerdict hw hq (by omega) (kE1 he) (by omega) (by omega)
          have hw6 : wf (cadd (c_putVerdict σ q 5587789 (e + 1) (c_referenceOfMessage σ e j) (c_ofMessage σ e j 0)) (q + 1) 43) := wf_add hw3 (by omega)
          have r_142 := r_ofMessage (e := e) (j := j) (x := 1) hw6 he (by omega) (by omega)
          have hw7 : wf (c_putNumber (cadd (c_putVerdict σ q 5587789 (e + 1) (c_referenceOfMessage σ e j) (c_ofMessage σ e j 0)) (q + 1) 43) q (c_ofMessage (cadd (c_putVerdict σ q 5587789 (e + 1) (c_referenceOfMessage σ e j) (c_ofMessage σ e j 0)) (q + 1) 43) e j 1)) := w_putNumber hw6 hq (by omega)
          have hw8 : wf (cadd (c_putNumber (cadd (c_putVerdict σ q 5587789 (e + 1) (c_referenceOfMessage σ e j) (c_ofMessage σ e j 0)) (q + 1) 43) q (c_ofMessage (cadd (c_putVerdict σ q 5587789 (e + 1) (c_referenceOfMessage σ e j) (c_ofMessage σ e j 0)) (q + 1) 43) e j 1)) (q + 1) 39) := wf_add hw7 (by omega)
          exact ih hw8 (by omega) (by omega)
      · split
        · have r_44 := r_messageCount (e := e) hw he
          have r_54 := r_ofMessage (e := e) (j := j) (x := 3) hw he (by omega) (by omega)
          have r_65 := r_ofMessage (e := e) (j := j) (x := 3) hw he (by omega) (by omega)
          have r_71 := r_referenceOfGroup (e := e) (g := (c_ofMessage σ e j 3)) hw he (by omega)
          have r_84 := r_codeOfGroup (e := e) (g := (c_ofMessage σ e j 3)) hw he (by omega)
          have hw9 : wf (c_putVerdict σ q 5587782 (e + 1) (c_referenceOfGroup σ e (c_ofMessage σ e j 3)) (c_codeOfGroup σ e (c_ofMessage σ e j 3))) := w_putVerdict hw hq (by omega) (kE1 he) (by omega) (by omega)
          have hw10 : wf (cadd (c_putVerdict σ q 5587782 (e + 1) (c_referenceOfGroup σ e (c_ofMessage σ e j 3)) (c_codeOfGroup σ e (c_ofMessage σ e j 3))) (q + 1) 39) := wf_add hw9 (by omega)
          have r_103 := r_ofMessage (e := e) (j := j) (x := 0) hw10 he (by omega) (by omega)
          have r_115 := r_referenceOfMessage (e := e) (j := j) hw10 he (by omega)
          have hw11 : wf (c_putVerdict (cadd (c_putVerdict σ q 5587782 (e + 1) (c_referenceOfGroup σ e (c_ofMessage σ e j 3)) (c_codeOfGroup σ e (c_ofMessage σ e j 3))) (q + 1) 39) q 5587789 (e + 1) (c_referenceOfMessage (cadd (c_putVerdict σ q 5587782 (e + 1) (c_referenceOfGroup σ e (c_ofMessage σ e j 3)) (c_codeOfGroup σ e (c_ofMessage σ e j 3))) (q + 1) 39) e j) (c_ofMessage (cadd (c_putVerdict σ q 5587782 (e + 1) (c_referenceOfGroup σ e (c_ofMessage σ e j 3)) (c_codeOfGroup σ e (c_ofMessage σ e j 3))) (q + 1) 39) e j 0)) := w_putVerdict hw10 hq (by omega) (kE1 he) (by omega) (by omega)
          have hw13 : wf (cadd (c_putVerdict (cadd (c_putVerdict σ q 5587782 (e + 1) (c_referenceOfGroup σ e (c_ofMessage σ e j 3)) (c_codeOfGroup σ e (c_ofMessage σ e j 3))) (q + 1) 39) q 5587789 (e + 1) (c_referenceOfMessage (cadd (c_putVerdict σ q 5587782 (e + 1) (c_referenceOfGroup σ e (c_ofMessage σ e j 3)) (c_codeOfGroup σ e (c_ofMessage σ e j 3))) (q + 1) 39) e j) (c_ofMessage (cadd (c_putVerdict σ q 5587782 (e + 1) (c_referenceOfGroup σ e (c_ofMessage σ e j 3)) (c_codeOfGroup σ e (c_ofMessage σ e j 3))) (q + 1) 39) e j 0)) (q + 1) 39) := wf_add hw11 (by omega)
          exact ih hw13 (by omega) (by omega)
        · have r_44 := r_messageCount (e := e) hw he
          have r_54 := r_ofMessage (e := e) (j := j) (x := 3) hw he (by omega) (by omega)
          have r_65 := r_ofMessage (e := e) (j := j) (x := 3) hw he (by omega) (by omega)
          have r_71 := r_referenceOfGroup (e := e) (g := (c_ofMessage σ e j 3)) hw he (by omega)
          have r_84 := r_codeOfGroup (e := e) (g := (c_ofMessage σ e j 3)) hw he (by omega)
          have hw9 : wf (c_putVerdict σ q 5587782 (e + 1) (c_referenceOfGroup σ e (c_ofMessage σ e j 3)) (c_codeOfGroup σ e (c_ofMessage σ e j 3))) := w_putVerdict hw hq (by omega) (kE1 he) (by omega) (by omega)
          have hw10 : wf (cadd (c_putVerdict σ q 5587782 (e + 1) (c_referenceOfGroup σ e (c_ofMessage σ e j 3)) (c_codeOfGroup σ e (c_ofMessage σ e j 3))) (q + 1) 39) := wf_add hw9 (by omega)
          have r_103 := r_ofMessage (e := e) (j := j) (x := 0) hw10 he (by omega) (by omega)
          have r_115 := r_referenceOfMessage (e := e) (j := j) hw10 he (by omega)
          have hw11 : wf (c_putVerdict (cadd (c_putVerdict σ q 5587782 (e + 1) (c_referenceOfGroup σ e (c_ofMessage σ e j 3)) (c_codeOfGroup σ e (c_ofMessage σ e j 3))) (q + 1) 39) q 5587789 (e + 1) (c_referenceOfMessage (cadd (c_putVerdict σ q 5587782 (e + 1) (c_referenceOfGroup σ e (c_ofMessage σ e j 3)) (c_codeOfGroup σ e (c_ofMessage σ e j 3))) (q + 1) 39) e j) (c_ofMessage (cadd (c_putVerdict σ q 5587782 (e + 1) (c_referenceOfGroup σ e (c_ofMessage σ e j 3)) (c_codeOfGroup σ e (c_ofMessage σ e j 3))) (q + 1) 39) e j 0)) := w_putVerdict hw10 hq (by omega) (kE1 he) (by omega) (by omega)
          have hw14 : wf (cadd (c_putVerdict (cadd (c_putVerdict σ q 5587782 (e + 1) (c_referenceOfGroup σ e (c_ofMessage σ e j 3)) (c_codeOfGroup σ e (c_ofMessage σ e j 3))) (q + 1) 39) q 5587789 (e + 1) (c_referenceOfMessage (cadd (c_putVerdict σ q 5587782 (e + 1) (c_referenceOfGroup σ e (c_ofMessage σ e j 3)) (c_codeOfGroup σ e (c_ofMessage σ e j 3))) (q + 1) 39) e j) (c_ofMessage (cadd (c_putVerdict σ q 5587782 (e + 1) (c_referenceOfGroup σ e (c_ofMessage σ e j 3)) (c_codeOfGroup σ e (c_ofMessage σ e j 3))) (q + 1) 39) e j 0)) (q + 1) 43) := wf_add hw11 (by omega)
          have r_142 := r_ofMessage (e := e) (j := j) (x := 1) hw14 he (by omega) (by omega)
          have hw15 : wf (c_putNumber (cadd (c_putVerdict (cadd (c_putVerdict σ q 5587782 (e + 1) (c_referenceOfGroup σ e (c_ofMessage σ e j 3)) (c_codeOfGroup σ e (c_ofMessage σ e j 3))) (q + 1) 39) q 5587789 (e + 1) (c_referenceOfMessage (cadd (c_putVerdict σ q 5587782 (e + 1) (c_referenceOfGroup σ e (c_ofMessage σ e j 3)) (c_codeOfGroup σ e (c_ofMessage σ e j 3))) (q + 1) 39) e j) (c_ofMessage (cadd (c_putVerdict σ q 5587782 (e + 1) (c_referenceOfGroup σ e (c_ofMessage σ e j 3)) (c_codeOfGroup σ e (c_ofMessage σ e j 3))) (q + 1) 39) e j 0)) (q + 1) 43) q (c_ofMessage (cadd (c_putVerdict (cadd (c_putVerdict σ q 5587782 (e + 1) (c_referenceOfGroup σ e (c_ofMessage σ e j 3)) (c_codeOfGroup σ e (c_ofMessage σ e j 3))) (q + 1) 39) q 5587789 (e + 1) (c_referenceOfMessage (cadd (c_putVerdict σ q 5587782 (e + 1) (c_referenceOfGroup σ e (c_ofMessage σ e j 3)) (c_codeOfGroup σ e (c_ofMessage σ e j 3))) (q + 1) 39) e j) (c_ofMessage (cadd (c_putVerdict σ q 5587782 (e + 1) (c_referenceOfGroup σ e (c_ofMessage σ e j 3)) (c_codeOfGroup σ e (c_ofMessage σ e j 3))) (q + 1) 39) e j 0)) (q + 1) 43) e j 1)) := w_putNumber hw14 hq (by omega)
          have hw16 : wf (cadd (c_putNumber (cadd (c_putVerdict (cadd (c_putVerdict σ q 5587782 (e + 1) (c_referenceOfGroup σ e (c_ofMessage σ e j 3)) (c_codeOfGroup σ e (c_ofMessage σ e j 3))) (q + 1) 39) q 5587789 (e + 1) (c_referenceOfMessage (cadd (c_putVerdict σ q 5587782 (e + 1) (c_referenceOfGroup σ e (c_ofMessage σ e j 3)) (c_codeOfGroup σ e (c_ofMessage σ e j 3))) (q + 1) 39) e j) (c_ofMessage (cadd (c_putVerdict σ q 5587782 (e + 1) (c_referenceOfGroup σ e (c_ofMessage σ e j 3)) (c_codeOfGroup σ e (c_ofMessage σ e j 3))) (q + 1) 39) e j 0)) (q + 1) 43) q (c_ofMessage (cadd (c_putVerdict (cadd (c_putVerdict σ q 5587782 (e + 1) (c_referenceOfGroup σ e (c_ofMessage σ e j 3)) (c_codeOfGroup σ e (c_ofMessage σ e j 3))) (q + 1) 39) q 5587789 (e + 1) (c_referenceOfMessage (cadd (c_putVerdict σ q 5587782 (e + 1) (c_referenceOfGroup σ e (c_ofMessage σ e j 3)) (c_codeOfGroup σ e (c_ofMessage σ e j 3))) (q + 1) 39) e j) (c_ofMessage (cadd (c_putVerdict σ q 5587782 (e + 1) (c_referenceOfGroup σ e (c_ofMessage σ e j 3)) (c_codeOfGroup σ e (c_ofMessage σ e j 3))) (q + 1) 39) e j 0)) (q + 1) 43) e j 1)) (q + 1) 39) := wf_add hw15 (by omega)
          exact ih hw16 (by omega) (by omega)
theorem w_writeReport {σ : cS} {q : Nat} {e : Nat} (hw : wf σ) (hq : kd q = 1) (he : kd e = 0) : wf (c_writeReport σ q e) := by
  unfold c_writeReport
  have hw1 : wf (cemp σ (q + 1)) := wf_emp hw
  have r_17 := r_reference (e := e) hw1 he
  have r_21 := r_ecode (e := e) hw1 he
  have hw2 : wf (c_putVerdict (cemp σ (q + 1)) q 5587785 (e + 1) (c_reference (cemp σ (q + 1)) e) (c_ecode (cemp σ (q + 1)) e)) := w_putVerdict hw1 hq (by omega) (kE1 he) (by omega) (by omega)
  have hw3 : wf (cadd (c_putVerdict (cemp σ (q + 1)) q 5587785 (e + 1) (c_reference (cemp σ (q + 1)) e) (c_ecode (cemp σ (q + 1)) e)) (q + 1) 39) := wf_add hw2 (by omega)
  exact w_writeReportL hw3 hq he (2001) (by omega) (by omega)
