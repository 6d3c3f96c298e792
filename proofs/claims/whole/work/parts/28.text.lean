theorem nI_or (a b : Nat) : nI a ||| nI b = nI (a ||| b) := by
  rw [← Int32.toBitVec_inj, Int32.toBitVec_or]
  show BitVec.ofNat 32 a ||| BitVec.ofNat 32 b = BitVec.ofNat 32 (a ||| b)
  apply BitVec.eq_of_toNat_eq
  rw [BitVec.toNat_or, BitVec.toNat_ofNat, BitVec.toNat_ofNat, BitVec.toNat_ofNat, Nat.or_mod_two_pow]
section CS8
variable {S : Type} {inv : jH → S → Prop} {own : Nat → Prop} {l : Launch} {G : jG} {Y : jY} {d bc bs pc : Nat} {ls : List (Option Value)} {st : List Value} {σ : S} {P : jO → S → Prop}
theorem C_ishl8 {a : Int} (hd : decode Y.1.2.1 pc = .ok (.ishl, 1)) (h0 : 0 ≤ a) (h1 : a < 4194304) (k : CJ inv own l G Y d bc bs (pc + 1) ls (vi (a * 256) :: st) σ P) : CJ inv own l G Y d bc bs pc ls (vi 8 :: vi a :: st) σ P := by
  refine C_ishl hd ?_
  have e : Int32.ofInt a <<< (Int32.ofInt 8 &&& 31) = Int32.ofInt (a * 256) := by
    have e1 : Int32.ofInt a = nI a.toNat := by rw [iz_nI]; congr 1; omega
    rw [e1, pk_shlN (Int32.ofInt 8 &&& 31) 8 (by decide) (by omega), iz_nI]
    congr 1; omega
  rw [e]; exact k
theorem C_ior8 {a b : Int} (hd : decode Y.1.2.1 pc = .ok (.ior, 1)) (h0 : 0 ≤ a) (h1 : a < 4194304) (h2 : 0 ≤ b) (h3 : b < 256) (k : CJ inv own l G Y d bc bs (pc + 1) ls (vi (a * 256 + b) :: st) σ P) : CJ inv own l G Y d bc bs pc ls (vi b :: vi (a * 256) :: st) σ P := by
  refine C_ior hd ?_
  have e : Int32.ofInt (a * 256) ||| Int32.ofInt b = Int32.ofInt (a * 256 + b) := by
    have e1 : Int32.ofInt (a * 256) = nI (a.toNat * 256) := by rw [iz_nI]; congr 1; omega
    have e2 : Int32.ofInt b = nI b.toNat := by rw [iz_nI]; congr 1; omega
    have e3 : Int32.ofInt (a * 256 + b) = nI (a.toNat * 256 + b.toNat) := by rw [iz_nI]; congr 1; omega
    rw [e1, e2, e3]
    have hb : b.toNat < 2 ^ 8 := by omega
    have := Nat.two_pow_add_eq_or_of_lt hb a.toNat
    rw [Nat.mul_comm] at this
    rw [this]
    exact nI_or _ _
  rw [e]; exact k
end CS8
def c_xsize (σ : cS) (x : Nat) : Int := (σ.1 (x + 1)).length
theorem t_xsize {l : Launch} {G : jG} {d : Nat} {σ : cS} {x : Nat} (hw : wf σ) (hd : 1 ≤ d) (hx : kd x = 5) : CJ jCls jown l G (Yx mX5_size) d 0 0 0 [some (.ref x)] [] σ (det (some (vi (c_xsize σ x))) σ) := by
  refine C_aload_n dX5_size_0 rfl ?_
  refine C_get dX5_size_1 f_X5_14 (fun h hc => ⟨_, hc.2.2.2.2.1 _ hx, rfl⟩) ?_
  refine D_callV (As := []) (d' := 0) (row_size hw (kX1 hx)) dX5_size_4 v_X5_36 (fun h hc => ⟨_, (hc.1 _ (kX1 hx)).1⟩) rfl (Nat.le_of_ble_eq_true rfl) (by omega) (Nat.le_of_ble_eq_true rfl) ?_
  simp only [Option.toList, List.nil_append, List.cons_append]
  have r_4 := hw.len (kX1 hx)
  refine C_iret dX5_size_7 rfl ?_
  unfold det; rw [c_xsize]; exact ⟨rfl, rfl⟩
theorem r_xsize {σ : cS} {x : Nat} (hw : wf σ) (hx : kd x = 5) : 0 ≤ (c_xsize σ x) ∧ (c_xsize σ x) < 2001 := by
  unfold c_xsize
  have r_4 := hw.len (kX1 hx)
  omega
def c_xadd (σ : cS) (x : Nat) (v : Int) : cS := (cadd σ (x + 1) v)
theorem t_xadd {l : Launch} {G : jG} {d : Nat} {σ : cS} {x : Nat} {v : Int} (hw : wf σ) (hd : 1 ≤ d) (hx : kd x = 5) (hv : -3000 ≤ v ∧ v < 100000000) : CJ jCls jown l G (Yx mX5_add) d 0 0 0 [some (.ref x), some (vi v)] [] σ (det none (c_xadd σ x v)) := by
  refine C_aload_n dX5_add_0 rfl ?_
  refine C_get dX5_add_1 f_X5_14 (fun h hc => ⟨_, hc.2.2.2.2.1 _ hx, rfl⟩) ?_
  refine C_iload_n dX5_add_4 rfl ?_
  refine D_callV (As := [vi _]) (d' := 0) (row_add hw (kX1 hx) (by omega)) dX5_add_5 v_X5_40 (fun h hc => ⟨_, (hc.1 _ (kX1 hx)).1⟩) rfl (Nat.le_of_ble_eq_true rfl) (by omega) (Nat.le_of_ble_eq_true rfl) ?_
  simp only [Option.toList, List.nil_append, List.cons_append]
  have hw1 : wf (cadd σ (x + 1) v) := wf_add hw (by omega)
  refine C_vret dX5_add_8 rfl ⟨rfl, ?_⟩
  rw [c_xadd]
theorem w_xadd {σ : cS} {x : Nat} {v : Int} (hw : wf σ) (hx : kd x = 5) (hv : -3000 ≤ v ∧ v < 100000000) : wf (c_xadd σ x v) := by
  unfold c_xadd
  have hw1 : wf (cadd σ (x + 1) v) := wf_add hw (by omega)
  exact hw1
theorem i_xadd {σ : cS} {x : Nat} {v : Int} : (c_xadd σ x v).2 = σ.2 := by
  unfold c_xadd
  (repeat' split) <;> simp [cadd, cput, cemp, i_addCharacter, i_addComponent, i_addElement, i_addSegment, i_eempty, i_finish, i_judgeMessageN, i_note, i_pempty, i_tadd]
def c_xempty (σ : cS) (x : Nat) : cS := (cemp σ (x + 1))
theorem t_xempty {l : Launch} {G : jG} {d : Nat} {σ : cS} {x : Nat} (hw : wf σ) (hd : 1 ≤ d) (hx : kd x = 5) : CJ jCls jown l G (Yx mX5_empty) d 0 0 0 [some (.ref x)] [] σ (det none (c_xempty σ x)) := by
  refine C_aload_n dX5_empty_0 rfl ?_
  refine C_get dX5_empty_1 f_X5_14 (fun h hc => ⟨_, hc.2.2.2.2.1 _ hx, rfl⟩) ?_
  refine D_callV (As := []) (d' := 0) (row_empty hw (kX1 hx)) dX5_empty_4 v_X5_43 (fun h hc => ⟨_, (hc.1 _ (kX1 hx)).1⟩) rfl (Nat.le_of_ble_eq_true rfl) (by omega) (Nat.le_of_ble_eq_true rfl) ?_
  simp only [Option.toList, List.nil_append, List.cons_append]
  have hw1 : wf (cemp σ (x + 1)) := wf_emp hw
  refine C_vret dX5_empty_7 rfl ⟨rfl, ?_⟩
  rw [c_xempty]
theorem w_xempty {σ : cS} {x : Nat} (hw : wf σ) (hx : kd x = 5) : wf (c_xempty σ x) := by
  unfold c_xempty
  have hw1 : wf (cemp σ (x + 1)) := wf_emp hw
  exact hw1
theorem i_xempty {σ : cS} {x : Nat} : (c_xempty σ x).2 = σ.2 := by
  unfold c_xempty
  (repeat' split) <;> simp [cadd, cput, cemp, i_addCharacter, i_addComponent, i_addElement, i_addSegment, i_eempty, i_finish, i_judgeMessageN, i_note, i_pempty, i_tadd, i_xadd]
def c_canBeMark (σ : cS) (c : Int) : Bool := (if c = (-1) then false else (if c = 32 then false else (if (c_isDigit σ c) = true then false else (if (c_isCapital σ c) = true then false else (if c < 97 then true else (if c ≤ 122 then false else true))))))
theorem t_canBeMark {l : Launch} {G : jG} {d : Nat} {σ : cS} {c : Int} (hw : wf σ) (hd : 1 ≤ d) (hc : rg c) : CJ jCls jown l G (Yx mX5_canBeMark) d 0 0 0 [some (vi c)] [] σ (det (some (vi (bz (c_canBeMark σ c)))) σ) := by
  refine C_iload_n dX5_canBeMark_0 rfl ?_
  refine C_iconst dX5_canBeMark_1 ?_
  refine C_icmp_eq (tgt := 41) dX5_canBeMark_2 (by decide) (by omega) (by omega) (fun c_2 => ?_) (fun c_2 => ?_)
  · refine C_iconst dX5_canBeMark_41 ?_
    refine C_zret dX5_canBeMark_42 rfl (by first | exact Or.inl rfl | exact Or.inr rfl | exact bz_01 _) ?_
    unfold det; rw [c_canBeMark, if_pos (by omega)]; exact ⟨rfl, rfl⟩
  · refine C_iload_n dX5_canBeMark_5 rfl ?_
    refine C_bipush dX5_canBeMark_6 (by decide) ?_
    refine C_icmp_eq (tgt := 41) dX5_canBeMark_8 (by decide) (by omega) (by omega) (fun c_8 => ?_) (fun c_8 => ?_)
    · refine C_iconst dX5_canBeMark_41 ?_
      refine C_zret dX5_canBeMark_42 rfl (by first | exact Or.inl rfl | exact Or.inr rfl | exact bz_01 _) ?_
      unfold det; rw [c_canBeMark, if_neg (by omega), if_pos (by omega)]; exact ⟨rfl, rfl⟩
    · refine C_iload_n dX5_canBeMark_11 rfl ?_
      refine D_callSN (As := [vi _]) (d' := 0) (t_isDigit hw (Nat.le_refl _) (by omega)) dX5_canBeMark_12 s_X5_71 rfl (Nat.le_of_ble_eq_true rfl) (by omega) (Nat.le_of_ble_eq_true rfl) ?_
      simp only [Option.toList, List.nil_append, List.cons_append]
      refine C_if_neZ (tgt := 41) dX5_canBeMark_15 (by decide) (fun c_15 => ?_) (fun c_15 => ?_)
      · have b_15_3 := isDigit_t (σ := _) (c := c) (by assumption)
        refine C_iconst dX5_canBeMark_41 ?_
        refine C_zret dX5_canBeMark_42 rfl (by first | exact Or.inl rfl | exact Or.inr rfl | exact bz_01 _) ?_
        unfold det; rw [c_canBeMark, if_neg (by omega), if_neg (by omega), if_pos c_15]; exact ⟨rfl, rfl⟩
      · refine C_iload_n dX5_canBeMark_18 rfl ?_
        refine D_callSN (As := [vi _]) (d' := 0) (t_isCapital hw (Nat.le_refl _) (by omega)) dX5_canBeMark_19 s_X5_74 rfl (Nat.le_of_ble_eq_true rfl) (by omega) (Nat.le_of_ble_eq_true rfl) ?_
        simp only [Option.toList, List.nil_append, List.cons_append]
        refine C_if_neZ (tgt := 41) dX5_canBeMark_22 (by decide) (fun c_22 => ?_) (fun c_22 => ?_)
        · have b_22_4 := isCapital_t (σ := _) (c := c) (by assumption)
          refine C_iconst dX5_canBeMark_41 ?_
          refine C_zret dX5_canBeMark_42 rfl (by first | exact Or.inl rfl | exact Or.inr rfl | exact bz_01 _) ?_
          unfold det; rw [c_canBeMark, if_neg (by omega), if_neg (by omega), if_neg (by rw [c_15]; decide), if_pos c_22]; exact ⟨rfl, rfl⟩
        · refine C_iload_n dX5_canBeMark_25 rfl ?_
          refine C_bipush dX5_canBeMark_26 (by decide) ?_
          refine C_icmp_lt (tgt := 37) dX5_canBeMark_28 (by decide) (by omega) (by omega) (fun c_28 => ?_) (fun c_28 => ?_)
          · refine C_iconst dX5_canBeMark_37 ?_
            refine C_goto (tgt := 42) dX5_canBeMark_38 (by decide) ?_
            refine C_zret dX5_canBeMark_42 rfl (by first | exact Or.inl rfl | exact Or.inr rfl | exact bz_01 _) ?_
            unfold det; rw [c_canBeMark, if_neg (by omega), if_neg (by omega), if_neg (by rw [c_15]; decide), if_neg (by rw [c_22]; decide), if_pos (by omega)]; exact ⟨rfl, rfl⟩
          · refine C_iload_n dX5_canBeMark_31 rfl ?_
            refine C_bipush dX5_canBeMark_32 (by decide) ?_
            refine C_icmp_le (tgt := 41) dX5_canBeMark_34 (by decide) (by omega) (by omega) (fun c_34 => ?_) (fun c_34 => ?_)
            · refine C_iconst dX5_canBeMark_41 ?_
              refine C_zret dX5_canBeMark_42 rfl (by first | exact Or.inl rfl | exact Or.inr rfl | exact bz_01 _) ?_
              unfold det; rw [c_canBeMark, if_neg (by omega), if_neg (by omega), if_neg (by rw [c_15]; decide), if_neg (by rw [c_22]; decide), if_neg (by omega), if_pos (by omega)]; exact ⟨rfl, rfl⟩
            · refine C_iconst dX5_canBeMark_37 ?_
              refine C_goto (tgt := 42) dX5_canBeMark_38 (by decide) ?_
              refine C_zret dX5_canBeMark_42 rfl (by first | exact Or.inl rfl | exact Or.inr rfl | exact bz_01 _) ?_
              unfold det; rw [c_canBeMark, if_neg (by omega), if_neg (by omega), if_neg (by rw [c_15]; decide), if_neg (by rw [c_22]; decide), if_neg (by omega), if_neg (by omega)]; exact ⟨rfl, rfl⟩
def c_takeChoice (σ : cS) (x : Nat) (c : Int) : Bool × cS := (if (σ.2.1 x 1) = 3 then ((c_canBeMark (cI σ x 2 c) c), (cI σ x 2 c)) else (if (σ.2.1 x 1) = 4 then (if (c_canBeMark (cI σ x 3 c) c) = true then (if c = (σ.2.1 x 2) then (false, (cI σ x 3 c)) else (true, (cI σ x 3 c))) else (false, (cI σ x 3 c))) else (if (σ.2.1 x 1) = 5 then (if c = (-1) then (false, σ) else (true, σ)) else (if (σ.2.1 x 1) = 6 then (if c = 32 then (true, (cI σ x 4 0)) else (if (c_canBeMark (cI σ x 4 c) c) = true then (if c = (σ.2.1 x 2) then (false, (cI σ x 4 c)) else (if c = (σ.2.1 x 3) then (false, (cI σ x 4 c)) else (true, (cI σ x 4 c)))) else (false, (cI σ x 4 c)))) else (if (σ.2.1 x 1) = 7 then (if c = 32 then (true, σ) else (false, σ)) else (if (c_canBeMark (cI σ x 5 c) c) = true then (if c = (σ.2.1 x 2) then (false, (cI σ x 5 c)) else (if c = (σ.2.1 x 3) then (false, (cI σ x 5 c)) else (if c = (σ.2.1 x 4) then (false, (cI σ x 5 c)) else (true, (cI σ x 5 c))))) else (false, (cI σ x 5 c))))))))
theorem t_takeChoice {l : Launch} {G : jG} {d : Nat} {σ : cS} {x : Nat} {c : Int} (hw : wf σ) (hd : 2 ≤ d) (hx : kd x = 5) (hc : -3000 ≤ c ∧ c < 100000000) : CJ jCls jown l G (Yx mX5_takeChoice) d 0 0 0 [some (.ref x), some (vi c)] [] σ (det (some (vi (bz (c_takeChoice σ x c).1))) (c_takeChoice σ x c).2) := by
  refine C_aload_n dX5_takeChoice_0 rfl ?_
  refine C_get dX5_takeChoice_1 f_X5_20 (fun h hc => ⟨_, hc.2.2.2.2.1 _ hx, rfl⟩) ?_
  have g_1 := hw.2.2.1 x 1
  by_cases c_4_3 : (σ.2.1 x 1) = 3
  · refine C_tableIn (off := 36) (tgt := 40) dX5_takeChoice_4 (by omega) (by omega) (by omega) (by rw [c_4_3]; rfl) (by decide) ?_
    refine C_aload_n dX5_takeChoice_40 rfl ?_
    refine C_iload_n dX5_takeChoice_41 rfl ?_
    refine C_put (σ' := (cI σ x 2 c)) dX5_takeChoice_42 f_X5_24 jfit_i (ownX hx) (fun h hc => hc.putX2 hx) ?_
    have hw1 : wf (cI σ x 2 c) := wf_I hw (by omega)
    refine C_iload_n dX5_takeChoice_45 rfl ?_
    refine D_callS (As := [vi _]) (d' := 1) (t_canBeMark hw1 (Nat.le_refl _) (by omega)) dX5_takeChoice_46 s_X5_68 rfl (Nat.le_of_ble_eq_true rfl) (by omega) (Nat.le_of_ble_eq_true rfl) ?_
    simp only [Option.toList, List.nil_append, List.cons_append]
    refine C_zret dX5_takeChoice_49 rfl (by first | exact Or.inl rfl | exact Or.inr rfl | exact bz_01 _) ?_
    unfold det; rw [c_takeChoice, if_pos (by omega)]; exact ⟨rfl, rfl⟩
  by_cases c_4_4 : (σ.2.1 x 1) = 4
  · refine C_tableIn (off := 46) (tgt := 50) dX5_takeChoice_4 (by omega) (by omega) (by omega) (by rw [c_4_4]; rfl) (by decide) ?_
    refine C_aload_n dX5_takeChoice_50 rfl ?_
    refine C_iload_n dX5_takeChoice_51 rfl ?_
    refine C_put (σ' := (cI σ x 3 c)) dX5_takeChoice_52 f_X5_27 jfit_i (ownX hx) (fun h hc => hc.putX3 hx) ?_
    have hw2 : wf (cI σ x 3 c) := wf_I hw (by omega)
    refine C_iload_n dX5_takeChoice_55 rfl ?_
    refine D_callS (As := [vi _]) (d' := 1) (t_canBeMark hw2 (Nat.le_refl _) (by omega)) dX5_takeChoice_56 s_X5_68 rfl (Nat.le_of_ble_eq_true rfl) (by omega) (Nat.le_of_ble_eq_true rfl) ?_
    simp only [Option.toList, List.nil_append, List.cons_append]
    refine C_if_eqZ (tgt := 74) dX5_takeChoice_59 (by decide) (fun c_59 => ?_) (fun c_59 => ?_)
    · refine C_iconst dX5_takeChoice_74 ?_
      refine C_zret dX5_takeChoice_75 rfl (by first | exact Or.inl rfl | exact Or.inr rfl | exact bz_01 _) ?_
      unfold det; rw [c_takeChoice, if_neg (by omega), if_pos (by omega), if_neg (by rw [c_59]; decide)]; exact ⟨rfl, rfl⟩
    · refine C_iload_n dX5_takeChoice_62 rfl ?_
      refine C_aload_n dX5_takeChoice_63 rfl ?_
      refine C_get (v := vi (σ.2.1 x 2)) dX5_takeChoice_64 f_X5_24 (fun h hc => ⟨_, hc.2.2.2.2.1 _ hx, congrArg (fun z => some (vi z)) (show ((cI σ x 3 c).2.1 x 2) = (σ.2.1 x 2) by simp [cI, upI, cadd, cput, cemp])⟩) ?_
      have g_64 := hw.2.2.1 x 2
      refine C_icmp_eq (tgt := 74) dX5_takeChoice_67 (by decide) (by omega) (by omega) (fun c_67 => ?_) (fun c_67 => ?_)
      · refine C_iconst dX5_takeChoice_74 ?_
        refine C_zret dX5_takeChoice_75 rfl (by first | exact Or.inl rfl | exact Or.inr rfl | exact bz_01 _) ?_
        unfold det; rw [c_takeChoice, if_neg (by omega), if_pos (by omega), if_pos c_59, if_pos (by omega)]; exact ⟨rfl, rfl⟩
      · refine C_iconst dX5_takeChoice_70 ?_
        refine C_goto (tgt := 75) dX5_takeChoice_71 (by decide) ?_
        refine C_zret dX5_takeChoice_75 rfl (by first | exact Or.inl rfl | exact Or.inr rfl | exact bz_01 _) ?_
        unfold det; rw [c_takeChoice, if_neg (by omega), if_pos (by omega), if_pos c_59, if_neg (by omega)]; exact ⟨rfl, rfl⟩
  by_cases c_4_5 : (σ.2.1 x 1) = 5
  · refine C_tableIn (off := 72) (tgt := 76) dX5_takeChoice_4 (by omega) (by omega) (by omega) (by rw [c_4_5]; rfl) (by decide) ?_
    refine C_iload_n dX5_takeChoice_76 rfl ?_
    refine C_iconst dX5_takeChoice_77 ?_
    refine C_icmp_eq (tgt := 85) dX5_takeChoice_78 (by decide) (by omega) (by omega) (fun c_78 => ?_) (fun c_78 => ?_)
    · refine C_iconst dX5_takeChoice_85 ?_
      refine C_zret dX5_takeChoice_86 rfl (by first | exact Or.inl rfl | exact Or.inr rfl | exact bz_01 _) ?_
      unfold det; rw [c_takeChoice, if_neg (by omega), if_neg (by omega), if_pos (by omega), if_pos (by omega)]; exact ⟨rfl, rfl⟩
    · refine C_iconst dX5_takeChoice_81 ?_
      refine C_goto (tgt := 86) dX5_takeChoice_82 (by decide) ?_
      refine C_zret dX5_takeChoice_86 rfl (by first | exact Or.inl rfl | exact Or.inr rfl | exact bz_01 _) ?_
      unfold det; rw [c_takeChoice, if_neg (by omega), if_neg (by omega), if_pos (by omega), if_neg (by omega)]; exact ⟨rfl, rfl⟩
  by_cases c_4_6 : (σ.2.1 x 1) = 6
  · refine C_tableIn (off := 83) (tgt := 87) dX5_takeChoice_4 (by omega) (by omega) (by omega) (by rw [c_4_6]; rfl) (by decide) ?_
    refine C_aload_n dX5_takeChoice_87 rfl ?_
    refine C_iload_n dX5_takeChoice_88 rfl ?_
    refine C_bipush dX5_takeChoice_89 (by decide) ?_
    refine C_icmp_ne (tgt := 98) dX5_takeChoice_91 (by decide) (by omega) (by omega) (fun c_91 => ?_) (fun c_91 => ?_)
    · refine C_iload_n dX5_takeChoice_98 rfl ?_
      refine C_put (σ' := (cI σ x 4 c)) dX5_takeChoice_99 f_X5_30 jfit_i (ownX hx) (fun h hc => hc.putX4 hx) ?_
      have hw7 : wf (cI σ x 4 c) := wf_I hw (by omega)
      refine C_iload_n dX5_takeChoice_102 rfl ?_
      refine C_bipush dX5_takeChoice_103 (by decide) ?_
      refine C_icmp_eq (tgt := 131) dX5_takeChoice_105 (by decide) (by omega) (by omega) (fun c_105 => absurd c_105 (by omega)) (fun c_105 => ?_)
      refine C_iload_n dX5_takeChoice_108 rfl ?_
      refine D_callS (As := [vi _]) (d' := 1) (t_canBeMark hw7 (Nat.le_refl _) (by omega)) dX5_takeChoice_109 s_X5_68 rfl (Nat.le_of_ble_eq_true rfl) (by omega) (Nat.le_of_ble_eq_true rfl) ?_
      simp only [Option.toList, List.nil_append, List.cons_append]
      refine C_if_eqZ (tgt := 135) dX5_takeChoice_112 (by decide) (fun c_112 => ?_) (fun c_112 => ?_)
      · refine C_iconst dX5_takeChoice_135 ?_
        refine C_zret dX5_takeChoice_136 rfl (by first | exact Or.inl rfl | exact Or.inr rfl | exact bz_01 _) ?_
        unfold det; rw [c_takeChoice, if_neg (by omega), if_neg (by omega), if_neg (by omega), if_pos (by omega), if_neg (by omega), if_neg (by rw [c_112]; decide)]; exact ⟨rfl, rfl⟩
      · refine C_iload_n dX5_takeChoice_115 rfl ?_
        refine C_aload_n dX5_takeChoice_116 rfl ?_
        refine C_get (v := vi (σ.2.1 x 2)) dX5_takeChoice_117 f_X5_24 (fun h hc => ⟨_, hc.2.2.2.2.1 _ hx, congrArg (fun z => some (vi z)) (show ((cI σ x 4 c).2.1 x 2) = (σ.2.1 x 2) by simp [cI, upI, cadd, cput, cemp])⟩) ?_
        have g_117 := hw.2.2.1 x 2
        refine C_icmp_eq (tgt := 135) dX5_takeChoice_120 (by decide) (by omega) (by omega) (fun c_120 => ?_) (fun c_120 => ?_)
        · refine C_iconst dX5_takeChoice_135 ?_
          refine C_zret dX5_takeChoice_136 rfl (by first | exact Or.inl rfl | exact Or.inr rfl | exact bz_01 _) ?_
          unfold det; rw [c_takeChoice, if_neg (by omega), if_neg (by omega), if_neg (by omega), if_pos (by omega), if_neg (by omega), if_pos c_112, if_pos (by omega)]; exact ⟨rfl, rfl⟩
        · refine C_iload_n dX5_takeChoice_123 rfl ?_
          refine C_aload_n dX5_takeChoice_124 rfl ?_
          refine C_get (v := vi (σ.2.1 x 3)) dX5_takeChoice_125 f_X5_27 (fun h hc => ⟨_, hc.2.2.2.2.1 _ hx, congrArg (fun z => some (vi z)) (show ((cI σ x 4 c).2.1 x 3) = (σ.2.1 x 3) by simp [cI, upI, cadd, cput, cemp])⟩) ?_
          have g_125 := hw.2.2.1 x 3
          refine C_icmp_eq (tgt := 135) dX5_takeChoice_128 (by decide) (by omega) (by omega) (fun c_128 => ?_) (fun c_128 => ?_)
          · refine C_iconst dX5_takeChoice_135 ?_
            refine C_zret dX5_takeChoice_136 rfl (by first | exact Or.inl rfl | exact Or.inr rfl | exact bz_01 _) ?_
            unfold det; rw [c_takeChoice, if_neg (by omega), if_neg (by omega), if_neg (by omega), if_pos (by omega), if_neg (by omega), if_pos c_112, if_neg (by omega), if_pos (by omega)]; exact ⟨rfl, rfl⟩
          · refine C_iconst dX5_takeChoice_131 ?_
            refine C_goto (tgt := 136) dX5_takeChoice_132 (by decide) ?_
            refine C_zret dX5_takeChoice_136 rfl (by first | exact Or.inl rfl | exact Or.inr rfl | exact bz_01 _) ?_
            unfold det; rw [c_takeChoice, if_neg (by omega), if_neg (by omega), if_neg (by omega), if_pos (by omega), if_neg (by omega), if_pos c_112, if_neg (by omega), if_neg (by omega)]; exact ⟨rfl, rfl⟩
    · refine C_iconst dX5_takeChoice_94 ?_
      refine C_goto (tgt := 99) dX5_takeChoice_95 (by decide) ?_
      refine C_put (σ' := (cI σ x 4 0)) dX5_takeChoice_99 f_X5_30 jfit_i (ownX hx) (fun h hc => hc.putX4 hx) ?_
      have hw12 : wf (cI σ x 4 0) := wf_I hw (by omega)
      refine C_iload_n dX5_takeChoice_102 rfl ?_
      refine C_bipush dX5_takeChoice_103 (by decide) ?_
      refine C_icmp_eq (tgt := 131) dX5_takeChoice_105 (by decide) (by omega) (by omega) (fun c_105 => ?_) (fun c_105 => absurd c_105 (by omega))
      refine C_iconst dX5_takeChoice_131 ?_
      refine C_goto (tgt := 136) dX5_takeChoice_132 (by decide) ?_
      refine C_zret dX5_takeChoice_136 rfl (by first | exact Or.inl rfl | exact Or.inr rfl | exact bz_01 _) ?_
      unfold det; rw [c_takeChoice, if_neg (by omega), if_neg (by omega), if_neg (by omega), if_pos (by omega), if_pos (by omega)]; exact ⟨rfl, rfl⟩
  by_cases c_4_7 : (σ.2.1 x 1) = 7
  · refine C_tableIn (off := 133) (tgt := 137) dX5_takeChoice_4 (by omega) (by omega) (by omega) (by rw [c_4_7]; rfl) (by decide) ?_
    refine C_iload_n dX5_takeChoice_137 rfl ?_
    refine C_bipush dX5_takeChoice_138 (by decide) ?_
    refine C_icmp_ne (tgt := 147) dX5_takeChoice_140 (by decide) (by omega) (by omega) (fun c_140 => ?_) (fun c_140 => ?_)
    · refine C_iconst dX5_takeChoice_147 ?_
      refine C_zret dX5_takeChoice_148 rfl (by first | exact Or.inl rfl | exact Or.inr rfl | exact bz_01 _) ?_
      unfold det; rw [c_takeChoice, if_neg (by omega), if_neg (by omega), if_neg (by omega), if_neg (by omega), if_pos (by omega), if_neg (by omega)]; exact ⟨rfl, rfl⟩
    · refine C_iconst dX5_takeChoice_143 ?_
      refine C_goto (tgt := 148) dX5_takeChoice_144 (by decide) ?_
      refine C_zret dX5_takeChoice_148 rfl (by first | exact Or.inl rfl | exact Or.inr rfl | exact bz_01 _) ?_
      unfold det; rw [c_takeChoice, if_neg (by omega), if_neg (by omega), if_neg (by omega), if_neg (by omega), if_pos (by omega), if_pos (by omega)]; exact ⟨rfl, rfl⟩
  refine C_tableOut (tgt := 149) dX5_takeChoice_4 (by omega) (by omega) (by decide) ?_
  refine C_aload_n dX5_takeChoice_149 rfl ?_
  refine C_iload_n dX5_takeChoice_150 rfl ?_
  refine C_put (σ' := (cI σ x 5 c)) dX5_takeChoice_151 f_X5_33 jfit_i (ownX hx) (fun h hc => hc.putX5 hx) ?_
  have hw15 : wf (cI σ x 5 c) := wf_I hw (by omega)
  refine C_iload_n dX5_takeChoice_154 rfl ?_
  refine D_callS (As := [vi _]) (d' := 1) (t_canBeMark hw15 (Nat.le_refl _) (by omega)) dX5_takeChoice_155 s_X5_68 rfl (Nat.le_of_ble_eq_true rfl) (by omega) (Nat.le_of_ble_eq_true rfl) ?_
  simp only [Option.toList, List.nil_append, List.cons_append]
  refine C_if_eqZ (tgt := 189) dX5_takeChoice_158 (by decide) (fun c_158 => ?_) (fun c_158 => ?_)
  · refine C_iconst dX5_takeChoice_189 ?_
    refine C_zret dX5_takeChoice_190 rfl (by first | exact Or.inl rfl | exact Or.inr rfl | exact bz_01 _) ?_
    unfold det; rw [c_takeChoice, if_neg (by omega), if_neg (by omega), if_neg (by omega), if_neg (by omega), if_neg (by omega), if_neg (by rw [c_158]; decide)]; exact ⟨rfl, rfl⟩
  · refine C_iload_n dX5_takeChoice_161 rfl ?_
    refine C_aload_n dX5_takeChoice_162 rfl ?_
    refine C_get (v := vi (σ.2.1 x 2)) dX5_takeChoice_163 f_X5_24 (fun h hc => ⟨_, hc.2.2.2.2.1 _ hx, congrArg (fun z => some (vi z)) (show ((cI σ x 5 c).2.1 x 2) = (σ.2.1 x 2) by simp [cI, upI, cadd, cput, cemp])⟩) ?_
    have g_163 := hw.2.2.1 x 2
    refine C_icmp_eq (tgt := 189) dX5_takeChoice_166 (by decide) (by omega) (by omega) (fun c_166 => ?_) (fun c_166 => ?_)
    · refine C_iconst dX5_takeChoice_189 ?_
      refine C_zret dX5_takeChoice_190 rfl (by first | exact Or.inl rfl | exact Or.inr rfl | exact bz_01 _) ?_
      unfold det; rw [c_takeChoice, if_neg (by omega), if_neg (by omega), if_neg (by omega), if_neg (by omega), if_neg (by omega), if_pos c_158, if_pos (by omega)]; exact ⟨rfl, rfl⟩
    · refine C_iload_n dX5_takeChoice_169 rfl ?_
      refine C_aload_n dX5_takeChoice_170 rfl ?_
      refine C_get (v := vi (σ.2.1 x 3)) dX5_takeChoice_171 f_X5_27 (fun h hc => ⟨_, hc.2.2.2.2.1 _ hx, congrArg (fun z => some (vi z)) (show ((cI σ x 5 c).2.1 x 3) = (σ.2.1 x 3) by simp [cI, upI, cadd, cput, cemp])⟩) ?_
      have g_171 := hw.2.2.1 x 3
      refine C_icmp_eq (tgt := 189) dX5_takeChoice_174 (by decide) (by omega) (by omega) (fun c_174 => ?_) (fun c_174 => ?_)
      · refine C_iconst dX5_takeChoice_189 ?_
        refine C_zret dX5_takeChoice_190 rfl (by first | exact Or.inl rfl | exact Or.inr rfl | exact bz_01 _) ?_
        unfold det; rw [c_takeChoice, if_neg (by omega), if_neg (by omega), if_neg (by omega), if_neg (by omega), if_neg (by omega), if_pos c_158, if_neg (by omega), if_pos (by omega)]; exact ⟨rfl, rfl⟩
      · refine C_iload_n dX5_takeChoice_177 rfl ?_
        refine C_aload_n dX5_takeChoice_178 rfl ?_
        refine C_get (v := vi (σ.2.1 x 4)) dX5_takeChoice_179 f_X5_30 (fun h hc => ⟨_, hc.2.2.2.2.1 _ hx, congrArg (fun z => some (vi z)) (show ((cI σ x 5 c).2.1 x 4) = (σ.2.1 x 4) by simp [cI, upI, cadd, cput, cemp])⟩) ?_
        have g_179 := hw.2.2.1 x 4
        refine C_icmp_eq (tgt := 189) dX5_takeChoice_182 (by decide) (by omega) (by omega) (fun c_182 => ?_) (fun c_182 => ?_)
        · refine C_iconst dX5_takeChoice_189 ?_
          refine C_zret dX5_takeChoice_190 rfl (by first | exact Or.inl rfl | exact Or.inr rfl | exact bz_01 _) ?_
          unfold det; rw [c_takeChoice, if_neg (by omega), if_neg (by omega), if_neg (by omega), if_neg (by omega), if_neg (by omega), if_pos c_158, if_neg (by omega), if_neg (by omega), if_pos (by omega)]; exact ⟨rfl, rfl⟩
        · refine C_iconst dX5_takeChoice_185 ?_
          refine C_goto (tgt := 190) dX5_takeChoice_186 (by decide) ?_
          refine C_zret dX5_takeChoice_190 rfl (by first | exact Or.inl rfl | exact Or.inr rfl | exact bz_01 _) ?_
          unfold det; rw [c_takeChoice, if_neg (by omega), if_neg (by omega), if_neg (by omega), if_neg (by omega), if_neg (by omega), if_pos c_158, if_neg (by omega), if_neg (by omega), if_neg (by omega)]; exact ⟨rfl, rfl⟩
theorem w_takeChoice {σ : cS} {x : Nat} {c : Int} (hw : wf σ) (hx : kd x = 5) (hc : -3000 ≤ c ∧ c < 100000000) : wf (c_takeChoice σ x c).2 := by
  unfold c_takeChoice
  split
  · have g_1 := hw.2.2.1 x 1
    have hw1 : wf (cI σ x 2 c) := wf_I hw (by omega)
    exact hw1
  · split
    · split
      · split
        · have g_1 := hw.2.2.1 x 1
          have hw2 : wf (cI σ x 3 c) := wf_I hw (by omega)
          have g_64 := hw.2.2.1 x 2
          exact hw2
        · have g_1 := hw.2.2.1 x 1
          have hw2 : wf (cI σ x 3 c) := wf_I hw (by omega)
          have g_64 := hw.2.2.1 x 2
          exact hw2
      · have g_1 := hw.2.2.1 x 1
        have hw2 : wf (cI σ x 3 c) := wf_I hw (by omega)
        exact hw2
    · split
      · split
        · have g_1 := hw.2.2.1 x 1
          exact hw
        · have g_1 := hw.2.2.1 x 1
          exact hw
      · split
        · split
          · have g_1 := hw.2.2.1 x 1
            have hw12 : wf (cI σ x 4 0) := wf_I hw (by omega)
            exact hw12
          · split
            · split
              · have g_1 := hw.2.2.1 x 1
                have hw7 : wf (cI σ x 4 c) := wf_I hw (by omega)
                have g_117 := hw.2.2.1 x 2
                exact hw7
              · split
                · have g_1 := hw.2.2.1 x 1
                  have hw7 : wf (cI σ x 4 c) := wf_I hw (by omega)
                  have g_117 := hw.2.2.1 x 2
                  have g_125 := hw.2.2.1 x 3
                  exact hw7
                · have g_1 := hw.2.2.1 x 1
                  have hw7 : wf (cI σ x 4 c) := wf_I hw (by omega)
                  have g_117 := hw.2.2.1 x 2
                  have g_125 := hw.2.2.1 x 3
                  exact hw7
            · have g_1 := hw.2.2.1 x 1
              have hw7 : wf (cI σ x 4 c) := wf_I hw (by omega)
              exact hw7
        · split
          · split
            · have g_1 := hw.2.2.1 x 1
              exact hw
            · have g_1 := hw.2.2.1 x 1
              exact hw
          · split
            · split
              · have g_1 := hw.2.2.1 x 1
                have hw15 : wf (cI σ x 5 c) := wf_I hw (by omega)
                have g_163 := hw.2.2.1 x 2
                exact hw15
              · split
                · have g_1 := hw.2.2.1 x 1
                  have hw15 : wf (cI σ x 5 c) := wf_I hw (by omega)
                  have g_163 := hw.2.2.1 x 2
                  have g_171 := hw.2.2.1 x 3
                  exact hw15
                · split
                  · have g_1 := hw.2.2.1 x 1
                    have hw15 : wf (cI σ x 5 c) := wf_I hw (by omega)
                    have g_163 := hw.2.2.1 x 2
                    have g_171 := hw.2.2.1 x 3
                    have g_179 := hw.2.2.1 x 4
                    exact hw15
                  · have g_1 := hw.2.2.1 x 1
                    have hw15 : wf (cI σ x 5 c) := wf_I hw (by omega)
                    have g_163 := hw.2.2.1 x 2
                    have g_171 := hw.2.2.1 x 3
                    have g_179 := hw.2.2.1 x 4
                    exact hw15
            · have g_1 := hw.2.2.1 x 1
              have hw15 : wf (cI σ x 5 c) := wf_I hw (by omega)
              exact hw15
def c_takeMarksL (x : Nat) : Nat → cS → Bool × cS
  | 0, σ => (false, σ)
  | fu + 1, σ => (if 9 ≤ (σ.2.1 x 1) then (true, σ) else (if (c_takeChoice σ x (rat (σ.1 (x + 1)) (σ.2.1 x 1))).1 = true then (c_takeMarksL x fu  (cI (c_takeChoice σ x (rat (σ.1 (x + 1)) (σ.2.1 x 1))).2 x 1 (((c_takeChoice σ x (rat (σ.1 (x + 1)) (σ.2.1 x 1))).2.2.1 x 1) + 1))) else (false, (c_takeChoice σ x (rat (σ.1 (x + 1)) (σ.2.1 x 1))).2)))
def c_takeMarks (σ : cS) (x : Nat) : Bool × cS := (if (rat (σ.1 (x + 1)) 0) = 85 then (if (rat (σ.1 (x + 1)) 1) = 78 then (if (rat (σ.1 (x + 1)) 2) = 65 then (c_takeMarksL x (100003001)  (cI σ x 1 3)) else (true, (cI (cI (cI (cI σ x 2 58) x 3 43) x 4 63) x 5 39))) else (true, (cI (cI (cI (cI σ x 2 58) x 3 43) x 4 63) x 5 39))) else (true, (cI (cI (cI (cI σ x 2 58) x 3 43) x 4 63) x 5 39)))
theorem t_takeMarksL {l : Launch} {G : jG} {d : Nat} {σ : cS} {x : Nat} (hw : wf σ) (hd : 3 ≤ d) (hx : kd x = 5) (fu : Nat)  (hm : 100000000 - σ.2.1 x 1 < (fu : Int)) : CJ jCls jown l G (Yx mX5_takeMarks) d 0 0 70 [some (.ref x)] [] σ (det (some (vi (bz (c_takeMarksL x fu  σ).1))) (c_takeMarksL x fu  σ).2) := by
  induction fu generalizing σ with
  | zero => exact absurd hm (by omega)
  | succ fu ih =>
    refine C_aload_n dX5_takeMarks_70 rfl ?_
    refine C_get dX5_takeMarks_71 f_X5_20 (fun h hc => ⟨_, hc.2.2.2.2.1 _ hx, rfl⟩) ?_
    have g_71 := hw.2.2.1 x 1
    refine C_bipush dX5_takeMarks_74 (by decide) ?_
    refine C_icmp_ge (tgt := 112) dX5_takeMarks_76 (by decide) (by omega) (by omega) (fun c_76 => ?_) (fun c_76 => ?_)
    · refine C_iconst dX5_takeMarks_112 ?_
      refine C_zret dX5_takeMarks_113 rfl (by first | exact Or.inl rfl | exact Or.inr rfl | exact bz_01 _) ?_
      unfold det; rw [c_takeMarksL, if_pos (by omega)]; exact ⟨rfl, rfl⟩
    · refine C_aload_n dX5_takeMarks_79 rfl ?_
      refine C_aload_n dX5_takeMarks_80 rfl ?_
      refine C_get dX5_takeMarks_81 f_X5_14 (fun h hc => ⟨_, hc.2.2.2.2.1 _ hx, rfl⟩) ?_
      refine C_aload_n dX5_takeMarks_84 rfl ?_
      refine C_get dX5_takeMarks_85 f_X5_20 (fun h hc => ⟨_, hc.2.2.2.2.1 _ hx, rfl⟩) ?_
      have g_85 := hw.2.2.1 x 1
      refine D_callV (As := [vi _]) (d' := 0) (row_at hw (kX1 hx) (by omega)) dX5_takeMarks_88 v_X5_60 (fun h hc => ⟨_, (hc.1 _ (kX1 hx)).1⟩) rfl (Nat.le_of_ble_eq_true rfl) (by omega) (Nat.le_of_ble_eq_true rfl) ?_
      simp only [Option.toList, List.nil_append, List.cons_append]
      have r_88 := hw.ra2 (kX1 hx) (σ.2.1 x 1)
      refine D_callV (As := [vi _]) (d' := 2) (t_takeChoice hw (Nat.le_refl _) hx (by omega)) dX5_takeMarks_91 v_X5_64 (fun h hc => ⟨_, hc.2.2.2.2.1 _ hx⟩) rfl (Nat.le_of_ble_eq_true rfl) (by omega) (Nat.le_of_ble_eq_true rfl) ?_
      simp only [Option.toList, List.nil_append, List.cons_append]
      have hw2 : wf (c_takeChoice σ x (rat (σ.1 (x + 1)) (σ.2.1 x 1))).2 := w_takeChoice hw hx (by omega)
      refine C_if_neZ (tgt := 99) dX5_takeMarks_94 (by decide) (fun c_94 => ?_) (fun c_94 => ?_)
      · refine C_aload_n dX5_takeMarks_99 rfl ?_
        refine C_dup dX5_takeMarks_100 rfl ?_
        refine C_get dX5_takeMarks_101 f_X5_20 (fun h hc => ⟨_, hc.2.2.2.2.1 _ hx, rfl⟩) ?_
        have g_101 := hw2.2.2.1 x 1
        refine C_iconst dX5_takeMarks_104 ?_
        refine C_iadd dX5_takeMarks_105 ?_
        refine C_put (σ' := (cI (c_takeChoice σ x (rat (σ.1 (x + 1)) (σ.2.1 x 1))).2 x 1 (((c_takeChoice σ x (rat (σ.1 (x + 1)) (σ.2.1 x 1))).2.2.1 x 1) + 1))) dX5_takeMarks_106 f_X5_20 jfit_i (ownX hx) (fun h hc => hc.putX1 hx) ?_
        have hw4 : wf (cI (c_takeChoice σ x (rat (σ.1 (x + 1)) (σ.2.1 x 1))).2 x 1 (((c_takeChoice σ x (rat (σ.1 (x + 1)) (σ.2.1 x 1))).2.2.1 x 1) + 1)) := wf_I hw2 (by omega)
        refine C_goto (tgt := 70) dX5_takeMarks_109 (by decide) ?_
        rw [c_takeMarksL, if_neg (by omega), if_pos c_94]
        refine CJ.mono (ls' := [some (.ref x)]) (lsub_ok (by repeat (first | exact trivial | refine ⟨rfl, ?_⟩))) (fun _ _ q => q) ?_
        exact ih hw4  (by first | omega | (simp [cI, upI, i_addCharacter, i_addComponent, i_addElement, i_addSegment] <;> omega))
      · refine C_iconst dX5_takeMarks_97 ?_
        refine C_zret dX5_takeMarks_98 rfl (by first | exact Or.inl rfl | exact Or.inr rfl | exact bz_01 _) ?_
        unfold det; rw [c_takeMarksL, if_neg (by omega), if_neg (by rw [c_94]; decide)]; exact ⟨rfl, rfl⟩
theorem t_takeMarks {l : Launch} {G : jG} {d : Nat} {σ : cS} {x : Nat} (hw : wf σ) (hd : 3 ≤ d) (hx : kd x = 5) : CJ jCls jown l G (Yx mX5_takeMarks) d 0 0 0 [some (.ref x)] [] σ (det (some (vi (bz (c_takeMarks σ x).1))) (c_takeMarks σ x).2) := by
  refine C_aload_n dX5_takeMarks_0 rfl ?_
  refine C_get dX5_takeMarks_1 f_X5_14 (fun h hc => ⟨_, hc.2.2.2.2.1 _ hx, rfl⟩) ?_
  refine C_iconst dX5_takeMarks_4 ?_
  refine D_callV (As := [vi _]) (d' := 0) (row_at hw (kX1 hx) (by omega)) dX5_takeMarks_5 v_X5_60 (fun h hc => ⟨_, (hc.1 _ (kX1 hx)).1⟩) rfl (Nat.le_of_ble_eq_true rfl) (by omega) (Nat.le_of_ble_eq_true rfl) ?_
  simp only [Option.toList, List.nil_append, List.cons_append]
  have r_5 := hw.ra2 (kX1 hx) 0
  refine C_bipush dX5_takeMarks_8 (by decide) ?_
  refine C_icmp_ne (tgt := 39) dX5_takeMarks_10 (by decide) (by omega) (by omega) (fun c_10 => ?_) (fun c_10 => ?_)
  · refine C_aload_n dX5_takeMarks_39 rfl ?_
    refine C_bipush dX5_takeMarks_40 (by decide) ?_
    refine C_put (σ' := (cI σ x 2 58)) dX5_takeMarks_42 f_X5_24 jfit_i (ownX hx) (fun h hc => hc.putX2 hx) ?_
    have hw2 : wf (cI σ x 2 58) := wf_I hw (by omega)
    refine C_aload_n dX5_takeMarks_45 rfl ?_
    refine C_bipush dX5_takeMarks_46 (by decide) ?_
    refine C_put (σ' := (cI (cI σ x 2 58) x 3 43)) dX5_takeMarks_48 f_X5_27 jfit_i (ownX hx) (fun h hc => hc.putX3 hx) ?_
    have hw3 : wf (cI (cI σ x 2 58) x 3 43) := wf_I hw2 (by omega)
    refine C_aload_n dX5_takeMarks_51 rfl ?_
    refine C_bipush dX5_takeMarks_52 (by decide) ?_
    refine C_put (σ' := (cI (cI (cI σ x 2 58) x 3 43) x 4 63)) dX5_takeMarks_54 f_X5_30 jfit_i (ownX hx) (fun h hc => hc.putX4 hx) ?_
    have hw4 : wf (cI (cI (cI σ x 2 58) x 3 43) x 4 63) := wf_I hw3 (by omega)
    refine C_aload_n dX5_takeMarks_57 rfl ?_
    refine C_bipush dX5_takeMarks_58 (by decide) ?_
    refine C_put (σ' := (cI (cI (cI (cI σ x 2 58) x 3 43) x 4 63) x 5 39)) dX5_takeMarks_60 f_X5_33 jfit_i (ownX hx) (fun h hc => hc.putX5 hx) ?_
    have hw5 : wf (cI (cI (cI (cI σ x 2 58) x 3 43) x 4 63) x 5 39) := wf_I hw4 (by omega)
    refine C_iconst dX5_takeMarks_63 ?_
    refine C_zret dX5_takeMarks_64 rfl (by first | exact Or.inl rfl | exact Or.inr rfl | exact bz_01 _) ?_
    unfold det; rw [c_takeMarks, if_neg (by omega)]; exact ⟨rfl, rfl⟩
  · refine C_aload_n dX5_takeMarks_13 rfl ?_
    refine C_get dX5_takeMarks_14 f_X5_14 (fun h hc => ⟨_, hc.2.2.2.2.1 _ hx, rfl⟩) ?_
    refine C_iconst dX5_takeMarks_17 ?_
    refine D_callV (As := [vi _]) (d' := 0) (row_at hw (kX1 hx) (by omega)) dX5_takeMarks_18 v_X5_60 (fun h hc => ⟨_, (hc.1 _ (kX1 hx)).1⟩) rfl (Nat.le_of_ble_eq_true rfl) (by omega) (Nat.le_of_ble_eq_true rfl) ?_
    simp only [Option.toList, List.nil_append, List.cons_append]
    have r_18 := hw.ra2 (kX1 hx) 1
    refine C_bipush dX5_takeMarks_21 (by decide) ?_
    refine C_icmp_ne (tgt := 39) dX5_takeMarks_23 (by decide) (by omega) (by omega) (fun c_23 => ?_) (fun c_23 => ?_)
    · refine C_aload_n dX5_takeMarks_39 rfl ?_
      refine C_bipush dX5_takeMarks_40 (by decide) ?_
      refine C_put (σ' := (cI σ x 2 58)) dX5_takeMarks_42 f_X5_24 jfit_i (ownX hx) (fun h hc => hc.putX2 hx) ?_
      have hw7 : wf (cI σ x 2 58) := wf_I hw (by omega)
      refine C_aload_n dX5_takeMarks_45 rfl ?_
      refine C_bipush dX5_takeMarks_46 (by decide) ?_
      refine C_put (σ' := (cI (cI σ x 2 58) x 3 43)) dX5_takeMarks_48 f_X5_27 jfit_i (ownX hx) (fun h hc => hc.putX3 hx) ?_
      have hw8 : wf (cI (cI σ x 2 58) x 3 43) := wf_I hw7 (by omega)
      refine C_aload_n dX5_takeMarks_51 rfl ?_
      refine C_bipush dX5_takeMarks_52 (by decide) ?_
      refine C_put (σ' := (cI (cI (cI σ x 2 58) x 3 43) x 4 63)) dX5_takeMarks_54 f_X5_30 jfit_i (ownX hx) (fun h hc => hc.putX4 hx) ?_
      have hw9 : wf (cI (cI (cI σ x 2 58) x 3 43) x 4 63) := wf_I hw8 (by omega)
      refine C_aload_n dX5_takeMarks_57 rfl ?_
      refine C_bipush dX5_takeMarks_58 (by decide) ?_
      refine C_put (σ' := (cI (cI (cI (cI σ x 2 58) x 3 43) x 4 63) x 5 39)) dX5_takeMarks_60 f_X5_33 jfit_i (ownX hx) (fun h hc => hc.putX5 hx) ?_
      have hw10 : wf (cI (cI (cI (cI σ x 2 58) x 3 43) x 4 63) x 5 39) := wf_I hw9 (by omega)
      refine C_iconst dX5_takeMarks_63 ?_
      refine C_zret dX5_takeMarks_64 rfl (by first | exact Or.inl rfl | exact Or.inr rfl | exact bz_01 _) ?_
      unfold det; rw [c_takeMarks, if_pos (by omega), if_neg (by omega)]; exact ⟨rfl, rfl⟩
    · refine C_aload_n dX5_takeMarks_26 rfl ?_
      refine C_get dX5_takeMarks_27 f_X5_14 (fun h hc => ⟨_, hc.2.2.2.2.1 _ hx, rfl⟩) ?_
      refine C_iconst dX5_takeMarks_30 ?_
      refine D_callV (As := [vi _]) (d' := 0) (row_at hw (kX1 hx) (by omega)) dX5_takeMarks_31 v_X5_60 (fun h hc => ⟨_, (hc.1 _ (kX1 hx)).1⟩) rfl (Nat.le_of_ble_eq_true rfl) (by omega) (Nat.le_of_ble_eq_true rfl) ?_
      simp only [Option.toList, List.nil_append, List.cons_append]
      have r_31 := hw.ra2 (kX1 hx) 2
      refine C_bipush dX5_takeMarks_34 (by decide) ?_
      refine C_icmp_eq (tgt := 65) dX5_takeMarks_36 (by decide) (by omega) (by omega) (fun c_36 => ?_) (fun c_36 => ?_)
      · refine C_aload_n dX5_takeMarks_65 rfl ?_
        refine C_iconst dX5_takeMarks_66 ?_
        refine C_put (σ' := (cI σ x 1 3)) dX5_takeMarks_67 f_X5_20 jfit_i (ownX hx) (fun h hc => hc.putX1 hx) ?_
        have hw12 : wf (cI σ x 1 3) := wf_I hw (by omega)
        rw [c_takeMarks, if_pos (by omega), if_pos (by omega), if_pos (by omega)]
        refine CJ.mono (ls' := [some (.ref x)]) (lsub_ok (by repeat (first | exact trivial | refine ⟨rfl, ?_⟩))) (fun _ _ q => q) ?_
        exact t_takeMarksL hw12 hd hx (100003001)  (by first | omega | (simp [cI, upI, i_addCharacter, i_addComponent, i_addElement, i_addSegment] <;> omega))
      · refine C_aload_n dX5_takeMarks_39 rfl ?_
        refine C_bipush dX5_takeMarks_40 (by decide) ?_
        refine C_put (σ' := (cI σ x 2 58)) dX5_takeMarks_42 f_X5_24 jfit_i (ownX hx) (fun h hc => hc.putX2 hx) ?_
        have hw13 : wf (cI σ x 2 58) := wf_I hw (by omega)
        refine C_aload_n dX5_takeMarks_45 rfl ?_
        refine C_bipush dX5_takeMarks_46 (by decide) ?_
        refine C_put (σ' := (cI (cI σ x 2 58) x 3 43)) dX5_takeMarks_48 f_X5_27 jfit_i (ownX hx) (fun h hc => hc.putX3 hx) ?_
        have hw14 : wf (cI (cI σ x 2 58) x 3 43) := wf_I hw13 (by omega)
        refine C_aload_n dX5_takeMarks_51 rfl ?_
        refine C_bipush dX5_takeMarks_52 (by decide) ?_
        refine C_put (σ' := (cI (cI (cI σ x 2 58) x 3 43) x 4 63)) dX5_takeMarks_54 f_X5_30 jfit_i (ownX hx) (fun h hc => hc.putX4 hx) ?_
        have hw15 : wf (cI (cI (cI σ x 2 58) x 3 43) x 4 63) := wf_I hw14 (by omega)
        refine C_aload_n dX5_takeMarks_57 rfl ?_
        refine C_bipush dX5_takeMarks_58 (by decide) ?_
        refine C_put (σ' := (cI (cI (cI (cI σ x 2 58) x 3 43) x 4 63) x 5 39)) dX5_takeMarks_60 f_X5_33 jfit_i (ownX hx) (fun h hc => hc.putX5 hx) ?_
        have hw16 : wf (cI (cI (cI (cI σ x 2 58) x 3 43) x 4 63) x 5 39) := wf_I hw15 (by omega)
        refine C_iconst dX5_takeMarks_63 ?_
        refine C_zret dX5_takeMarks_64 rfl (by first | exact Or.inl rfl | exact Or.inr rfl | exact bz_01 _) ?_
        unfold det; rw [c_takeMarks, if_pos (by omega), if_pos (by omega), if_neg (by omega)]; exact ⟨rfl, rfl⟩
theorem w_takeMarksL {σ : cS} {x : Nat} (hw : wf σ) (hx : kd x = 5) (fu : Nat)  : wf (c_takeMarksL x fu  σ).2 := by
  induction fu generalizing σ with
  | zero => exact hw
  | succ fu ih =>
    unfold c_takeMarksL
    split
    · have g_71 := hw.2.2.1 x 1
      exact hw
    · split
      · have g_71 := hw.2.2.1 x 1
        have g_85 := hw.2.2.1 x 1
        have r_88 := hw.ra2 (kX1 hx) (σ.2.1 x 1)
        have hw2 : wf (c_takeChoice σ x (rat (σ.1 (x + 1)) (σ.2.1 x 1))).2 := w_takeChoice hw hx (by omega)
        have g_101 := hw2.2.2.1 x 1
        have hw4 : wf (cI (c_takeChoice σ x (rat (σ.1 (x + 1)) (σ.2.1 x 1))).2 x 1 (((c_takeChoice σ x (rat (σ.1 (x + 1)) (σ.2.1 x 1))).2.2.1 x 1) + 1)) := wf_I hw2 (by omega)
        exact ih hw4 
      · have g_71 := hw.2.2.1 x 1
        have g_85 := hw.2.2.1 x 1
        have r_88 := hw.ra2 (kX1 hx) (σ.2.1 x 1)
        have hw2 : wf (c_takeChoice σ x (rat (σ.1 (x + 1)) (σ.2.1 x 1))).2 := w_takeChoice hw hx (by omega)
        exact hw2
theorem w_takeMarks {σ : cS} {x : Nat} (hw : wf σ) (hx : kd x = 5) : wf (c_takeMarks σ x).2 := by
  unfold c_takeMarks
  split
  · split
    · split
      · have r_5 := hw.ra2 (kX1 hx) 0
        have r_18 := hw.ra2 (kX1 hx) 1
        have r_31 := hw.ra2 (kX1 hx) 2
        have hw12 : wf (cI σ x 1 3) := wf_I hw (by omega)
        exact w_takeMarksL hw12 hx (100003001) 
      · have r_5 := hw.ra2 (kX1 hx) 0
        have r_18 := hw.ra2 (kX1 hx) 1
        have r_31 := hw.ra2 (kX1 hx) 2
        have hw13 : wf (cI σ x 2 58) := wf_I hw (by omega)
        have hw14 : wf (cI (cI σ x 2 58) x 3 43) := wf_I hw13 (by omega)
        have hw15 : wf (cI (cI (cI σ x 2 58) x 3 43) x 4 63) := wf_I hw14 (by omega)
        have hw16 : wf (cI (cI (cI (cI σ x 2 58) x 3 43) x 4 63) x 5 39) := wf_I hw15 (by omega)
        exact hw16
    · have r_5 := hw.ra2 (kX1 hx) 0
      have r_18 := hw.ra2 (kX1 hx) 1
      have hw7 : wf (cI σ x 2 58) := wf_I hw (by omega)
      have hw8 : wf (cI (cI σ x 2 58) x 3 43) := wf_I hw7 (by omega)
      have hw9 : wf (cI (cI (cI σ x 2 58) x 3 43) x 4 63) := wf_I hw8 (by omega)
      have hw10 : wf (cI (cI (cI (cI σ x 2 58) x 3 43) x 4 63) x 5 39) := wf_I hw9 (by omega)
      exact hw10
  · have r_5 := hw.ra2 (kX1 hx) 0
    have hw2 : wf (cI σ x 2 58) := wf_I hw (by omega)
    have hw3 : wf (cI (cI σ x 2 58) x 3 43) := wf_I hw2 (by omega)
    have hw4 : wf (cI (cI (cI σ x 2 58) x 3 43) x 4 63) := wf_I hw3 (by omega)
    have hw5 : wf (cI (cI (cI (cI σ x 2 58) x 3 43) x 4 63) x 5 39) := wf_I hw4 (by omega)
    exact hw5
def c_takeComponentL (x : Nat) (p : Nat) : Nat → cS → cS
  | 0, σ => σ
  | fu + 1, σ => (if (σ.1 (x + 1)).length ≤ (σ.2.1 x 1) then σ else (if (rat (σ.1 (x + 1)) (σ.2.1 x 1)) = (σ.2.1 x 2) then σ else (if (rat (σ.1 (x + 1)) (σ.2.1 x 1)) = (σ.2.1 x 3) then σ else (if (rat (σ.1 (x + 1)) (σ.2.1 x 1)) = (σ.2.1 x 5) then σ else (if (rat (σ.1 (x + 1)) (σ.2.1 x 1)) = (σ.2.1 x 4) then (if (rat ((cI σ x 1 ((σ.2.1 x 1) + 1)).1 (x + 1)) ((σ.2.1 x 1) + 1)) = (-1) then (cI σ x 1 ((σ.2.1 x 1) + 1)) else (c_takeComponentL x p fu  (cI (c_addCharacter (cI σ x 1 ((σ.2.1 x 1) + 1)) p (rat ((cI σ x 1 ((σ.2.1 x 1) + 1)).1 (x + 1)) ((σ.2.1 x 1) + 1))) x 1 (((σ.2.1 x 1) + 1) + 1)))) else (if (rat (σ.1 (x + 1)) (σ.2.1 x 1)) = (-1) then σ else (c_takeComponentL x p fu  (cI (c_addCharacter σ p (rat (σ.1 (x + 1)) (σ.2.1 x 1))) x 1 ((σ.2.1 x 1) + 1)))))))))
def c_takeComponent (σ : cS) (x : Nat) (p : Nat) : cS := (c_takeComponentL x p (100003001)  σ)
theorem t_takeComponentL {l : Launch} {G : jG} {d : Nat} {σ : cS} {x : Nat} {p : Nat} (hw : wf σ) (hd : 2 ≤ d) (hx : kd x = 5) (hp : kd p = 2) (fu : Nat)  (hm : 100000000 - σ.2.1 x 1 < (fu : Int)) : CJ jCls jown l G (Yx mX5_takeComponent) d 0 0 0 [some (.ref x), some (.ref p), none] [] σ (det none (c_takeComponentL x p fu  σ)) := by
  induction fu generalizing σ with
  | zero => exact absurd hm (by omega)
  | succ fu ih =>
    refine C_aload_n dX5_takeComponent_0 rfl ?_
    refine C_get dX5_takeComponent_1 f_X5_20 (fun h hc => ⟨_, hc.2.2.2.2.1 _ hx, rfl⟩) ?_
    have g_1 := hw.2.2.1 x 1
    refine C_aload_n dX5_takeComponent_4 rfl ?_
    refine C_get dX5_takeComponent_5 f_X5_14 (fun h hc => ⟨_, hc.2.2.2.2.1 _ hx, rfl⟩) ?_
    refine D_callV (As := []) (d' := 0) (row_size hw (kX1 hx)) dX5_takeComponent_8 v_X5_36 (fun h hc => ⟨_, (hc.1 _ (kX1 hx)).1⟩) rfl (Nat.le_of_ble_eq_true rfl) (by omega) (Nat.le_of_ble_eq_true rfl) ?_
    simp only [Option.toList, List.nil_append, List.cons_append]
    have r_8 := hw.len (kX1 hx)
    refine C_icmp_ge (tgt := 105) dX5_takeComponent_11 (by decide) (by omega) (by omega) (fun c_11 => ?_) (fun c_11 => ?_)
    · refine C_vret dX5_takeComponent_105 rfl ⟨rfl, ?_⟩
      rw [c_takeComponentL, if_pos (by omega)]
    · refine C_aload_n dX5_takeComponent_14 rfl ?_
      refine C_get dX5_takeComponent_15 f_X5_14 (fun h hc => ⟨_, hc.2.2.2.2.1 _ hx, rfl⟩) ?_
      refine C_aload_n dX5_takeComponent_18 rfl ?_
      refine C_get dX5_takeComponent_19 f_X5_20 (fun h hc => ⟨_, hc.2.2.2.2.1 _ hx, rfl⟩) ?_
      have g_19 := hw.2.2.1 x 1
      refine D_callV (As := [vi _]) (d' := 0) (row_at hw (kX1 hx) (by omega)) dX5_takeComponent_22 v_X5_60 (fun h hc => ⟨_, (hc.1 _ (kX1 hx)).1⟩) rfl (Nat.le_of_ble_eq_true rfl) (by omega) (Nat.le_of_ble_eq_true rfl) ?_
      simp only [Option.toList, List.nil_append, List.cons_append]
      have r_22 := hw.ra2 (kX1 hx) (σ.2.1 x 1)
      refine C_istore_n dX5_takeComponent_25 (by decide) rfl ?_
      simp only [List.set_cons_zero, List.set_cons_succ, jfin0, jfin1, jfin2, jfin3]
      refine C_iload_n dX5_takeComponent_26 rfl ?_
      refine C_aload_n dX5_takeComponent_27 rfl ?_
      refine C_get dX5_takeComponent_28 f_X5_24 (fun h hc => ⟨_, hc.2.2.2.2.1 _ hx, rfl⟩) ?_
      have g_28 := hw.2.2.1 x 2
      refine C_icmp_eq (tgt := 50) dX5_takeComponent_31 (by decide) (by omega) (by omega) (fun c_31 => ?_) (fun c_31 => ?_)
      · refine C_vret dX5_takeComponent_50 rfl ⟨rfl, ?_⟩
        rw [c_takeComponentL, if_neg (by omega), if_pos (by omega)]
      · refine C_iload_n dX5_takeComponent_34 rfl ?_
        refine C_aload_n dX5_takeComponent_35 rfl ?_
        refine C_get dX5_takeComponent_36 f_X5_27 (fun h hc => ⟨_, hc.2.2.2.2.1 _ hx, rfl⟩) ?_
        have g_36 := hw.2.2.1 x 3
        refine C_icmp_eq (tgt := 50) dX5_takeComponent_39 (by decide) (by omega) (by omega) (fun c_39 => ?_) (fun c_39 => ?_)
        · refine C_vret dX5_takeComponent_50 rfl ⟨rfl, ?_⟩
          rw [c_takeComponentL, if_neg (by omega), if_neg (by omega), if_pos (by omega)]
        · refine C_iload_n dX5_takeComponent_42 rfl ?_
          refine C_aload_n dX5_takeComponent_43 rfl ?_
          refine C_get dX5_takeComponent_44 f_X5_33 (fun h hc => ⟨_, hc.2.2.2.2.1 _ hx, rfl⟩) ?_
          have g_44 := hw.2.2.1 x 5
          refine C_icmp_ne (tgt := 51) dX5_takeComponent_47 (by decide) (by omega) (by omega) (fun c_47 => ?_) (fun c_47 => ?_)
          · refine C_iload_n dX5_takeComponent_51 rfl ?_
            refine C_aload_n dX5_takeComponent_52 rfl ?_
            refine C_get dX5_takeComponent_53 f_X5_30 (fun h hc => ⟨_, hc.2.2.2.2.1 _ hx, rfl⟩) ?_
            have g_53 := hw.2.2.1 x 4
            refine C_icmp_ne (tgt := 81) dX5_takeComponent_56 (by decide) (by omega) (by omega) (fun c_56 => ?_) (fun c_56 => ?_)
            · refine C_iload_n dX5_takeComponent_81 rfl ?_
              refine C_iconst dX5_takeComponent_82 ?_
              refine C_icmp_ne (tgt := 87) dX5_takeComponent_83 (by decide) (by omega) (by omega) (fun c_83 => ?_) (fun c_83 => ?_)
              · refine C_aload_n dX5_takeComponent_87 rfl ?_
                refine C_iload_n dX5_takeComponent_88 rfl ?_
                refine D_callV (As := [vi _]) (d' := 1) (t_addCharacter hw (Nat.le_refl _) hp (by omega)) dX5_takeComponent_89 v_X5_96 (fun h hc => ⟨_, hc.2.1 _ hp⟩) rfl (Nat.le_of_ble_eq_true rfl) (by omega) (Nat.le_of_ble_eq_true rfl) ?_
                simp only [Option.toList, List.nil_append, List.cons_append]
                have hw7 : wf (c_addCharacter σ p (rat (σ.1 (x + 1)) (σ.2.1 x 1))) := w_addCharacter hw hp (by omega)
                refine C_aload_n dX5_takeComponent_92 rfl ?_
                refine C_dup dX5_takeComponent_93 rfl ?_
                refine C_get (v := vi (σ.2.1 x 1)) dX5_takeComponent_94 f_X5_20 (fun h hc => ⟨_, hc.2.2.2.2.1 _ hx, congrArg (fun z => some (vi z)) (show ((c_addCharacter σ p (rat (σ.1 (x + 1)) (σ.2.1 x 1))).2.1 x 1) = (σ.2.1 x 1) by simp [cI, upI, cadd, cput, cemp, i_addCharacter])⟩) ?_
                have g_94 := hw.2.2.1 x 1
                refine C_iconst dX5_takeComponent_97 ?_
                refine C_iadd dX5_takeComponent_98 ?_
                refine C_put (σ' := (cI (c_addCharacter σ p (rat (σ.1 (x + 1)) (σ.2.1 x 1))) x 1 ((σ.2.1 x 1) + 1))) dX5_takeComponent_99 f_X5_20 jfit_i (ownX hx) (fun h hc => hc.putX1 hx) ?_
                have hw8 : wf (cI (c_addCharacter σ p (rat (σ.1 (x + 1)) (σ.2.1 x 1))) x 1 ((σ.2.1 x 1) + 1)) := wf_I hw7 (by omega)
                refine C_goto (tgt := 0) dX5_takeComponent_102 (by decide) ?_
                rw [c_takeComponentL, if_neg (by omega), if_neg (by omega), if_neg (by omega), if_neg (by omega), if_neg (by omega), if_neg (by omega)]
                refine CJ.mono (ls' := [some (.ref x), some (.ref p), none]) (lsub_ok (by repeat (first | exact trivial | refine ⟨rfl, ?_⟩))) (fun _ _ q => q) ?_
                exact ih hw8  (by first | omega | (simp [cI, upI, i_addCharacter, i_addComponent, i_addElement, i_addSegment] <;> omega))
              · refine C_vret dX5_takeComponent_86 rfl ⟨rfl, ?_⟩
                rw [c_takeComponentL, if_neg (by omega), if_neg (by omega), if_neg (by omega), if_neg (by omega), if_neg (by omega), if_pos (by omega)]
            · refine C_aload_n dX5_takeComponent_59 rfl ?_
              refine C_dup dX5_takeComponent_60 rfl ?_
              refine C_get dX5_takeComponent_61 f_X5_20 (fun h hc => ⟨_, hc.2.2.2.2.1 _ hx, rfl⟩) ?_
              have g_61 := hw.2.2.1 x 1
              refine C_iconst dX5_takeComponent_64 ?_
              refine C_iadd dX5_takeComponent_65 ?_
              refine C_put (σ' := (cI σ x 1 ((σ.2.1 x 1) + 1))) dX5_takeComponent_66 f_X5_20 jfit_i (ownX hx) (fun h hc => hc.putX1 hx) ?_
              have hw9 : wf (cI σ x 1 ((σ.2.1 x 1) + 1)) := wf_I hw (by omega)
              refine C_aload_n dX5_takeComponent_69 rfl ?_
              refine C_get dX5_takeComponent_70 f_X5_14 (fun h hc => ⟨_, hc.2.2.2.2.1 _ hx, rfl⟩) ?_
              refine C_aload_n dX5_takeComponent_73 rfl ?_
              refine C_get (v := vi ((σ.2.1 x 1) + 1)) dX5_takeComponent_74 f_X5_20 (fun h hc => ⟨_, hc.2.2.2.2.1 _ hx, congrArg (fun z => some (vi z)) (show ((cI σ x 1 ((σ.2.1 x 1) + 1)).2.1 x 1) = ((σ.2.1 x 1) + 1) by simp [cI, upI, cadd, cput, cemp])⟩) ?_
              refine D_callV (As := [vi _]) (d' := 0) (row_at hw9 (kX1 hx) (by omega)) dX5_takeComponent_77 v_X5_60 (fun h hc => ⟨_, (hc.1 _ (kX1 hx)).1⟩) rfl (Nat.le_of_ble_eq_true rfl) (by omega) (Nat.le_of_ble_eq_true rfl) ?_
              simp only [Option.toList, List.nil_append, List.cons_append]
              have r_77 := hw9.ra2 (kX1 hx) ((σ.2.1 x 1) + 1)
              refine C_istore_n dX5_takeComponent_80 (by decide) rfl ?_
              simp only [List.set_cons_zero, List.set_cons_succ, jfin0, jfin1, jfin2, jfin3]
              refine C_iload_n dX5_takeComponent_81 rfl ?_
              refine C_iconst dX5_takeComponent_82 ?_
              refine C_icmp_ne (tgt := 87) dX5_takeComponent_83 (by decide) (by omega) (by omega) (fun c_83 => ?_) (fun c_83 => ?_)
              · refine C_aload_n dX5_takeComponent_87 rfl ?_
                refine C_iload_n dX5_takeComponent_88 rfl ?_
                refine D_callV (As := [vi _]) (d' := 1) (t_addCharacter hw9 (Nat.le_refl _) hp (by omega)) dX5_takeComponent_89 v_X5_96 (fun h hc => ⟨_, hc.2.1 _ hp⟩) rfl (Nat.le_of_ble_eq_true rfl) (by omega) (Nat.le_of_ble_eq_true rfl) ?_
                simp only [Option.toList, List.nil_append, List.cons_append]
                have hw11 : wf (c_addCharacter (cI σ x 1 ((σ.2.1 x 1) + 1)) p (rat ((cI σ x 1 ((σ.2.1 x 1) + 1)).1 (x + 1)) ((σ.2.1 x 1) + 1))) := w_addCharacter hw9 hp (by omega)
                refine C_aload_n dX5_takeComponent_92 rfl ?_
                refine C_dup dX5_takeComponent_93 rfl ?_
                refine C_get (v := vi ((σ.2.1 x 1) + 1)) dX5_takeComponent_94 f_X5_20 (fun h hc => ⟨_, hc.2.2.2.2.1 _ hx, congrArg (fun z => some (vi z)) (show ((c_addCharacter (cI σ x 1 ((σ.2.1 x 1) + 1)) p (rat ((cI σ x 1 ((σ.2.1 x 1) + 1)).1 (x + 1)) ((σ.2.1 x 1) + 1))).2.1 x 1) = ((σ.2.1 x 1) + 1) by simp [cI, upI, cadd, cput, cemp, i_addCharacter])⟩) ?_
                refine C_iconst dX5_takeComponent_97 ?_
                refine C_iadd dX5_takeComponent_98 ?_
                refine C_put (σ' := (cI (c_addCharacter (cI σ x 1 ((σ.2.1 x 1) + 1)) p (rat ((cI σ x 1 ((σ.2.1 x 1) + 1)).1 (x + 1)) ((σ.2.1 x 1) + 1))) x 1 (((σ.2.1 x 1) + 1) + 1))) dX5_takeComponent_99 f_X5_20 jfit_i (ownX hx) (fun h hc => hc.putX1 hx) ?_
                have hw12 : wf (cI (c_addCharacter (cI σ x 1 ((σ.2.1 x 1) + 1)) p (rat ((cI σ x 1 ((σ.2.1 x 1) + 1)).1 (x + 1)) ((σ.2.1 x 1) + 1))) x 1 (((σ.2.1 x 1) + 1) + 1)) := wf_I hw11 (by omega)
                refine C_goto (tgt := 0) dX5_takeComponent_102 (by decide) ?_
                rw [c_takeComponentL, if_neg (by omega), if_neg (by omega), if_neg (by omega), if_neg (by omega), if_pos (by omega), if_neg (by omega)]
                refine CJ.mono (ls' := [some (.ref x), some (.ref p), none]) (lsub_ok (by repeat (first | exact trivial | refine ⟨rfl, ?_⟩))) (fun _ _ q => q) ?_
                exact ih hw12  (by first | omega | (simp [cI, upI, i_addCharacter, i_addComponent, i_addElement, i_addSegment] <;> omega))
              · refine C_vret dX5_takeComponent_86 rfl ⟨rfl, ?_⟩
                rw [c_takeComponentL, if_neg (by omega), if_neg (by omega), if_neg (by omega), if_neg (by omega), if_pos (by omega), if_pos (by omega)]
          · refine C_vret dX5_takeComponent_50 rfl ⟨rfl, ?_⟩
            rw [c_takeComponentL, if_neg (by omega), if_neg (by omega), if_neg (by omega), if_pos (by omega)]
theorem t_takeComponent {l : Launch} {G : jG} {d : Nat} {σ : cS} {x : Nat} {p : Nat} (hw : wf σ) (hd : 2 ≤ d) (hx : kd x = 5) (hp : kd p = 2) : CJ jCls jown l G (Yx mX5_takeComponent) d 0 0 0 [some (.ref x), some (.ref p), none] [] σ (det none (c_takeComponent σ x p)) := by
  rw [c_takeComponent]
  refine CJ.mono (ls' := [some (.ref x), some (.ref p), none]) (lsub_ok (by repeat (first | exact trivial | refine ⟨rfl, ?_⟩))) (fun _ _ q => q) ?_
  exact t_takeComponentL hw hd hx hp (100003001)  (by first | omega | (simp [cI, upI, i_addCharacter, i_addComponent, i_addElement, i_addSegment] <;> omega))
theorem w_takeComponentL {σ : cS} {x : Nat} {p : Nat} (hw : wf σ) (hx : kd x = 5) (hp : kd p = 2) (fu : Nat)  : wf (c_takeComponentL x p fu  σ) := by
  induction fu generalizing σ with
  | zero => exact hw
  | succ fu ih =>
    unfold c_takeComponentL
    split
    · have g_1 := hw.2.2.1 x 1
      have r_8 := hw.len (kX1 hx)
      exact hw
    · split
      · have g_1 := hw.2.2.1 x 1
        have r_8 := hw.len (kX1 hx)
        have g_19 := hw.2.2.1 x 1
        have r_22 := hw.ra2 (kX1 hx) (σ.2.1 x 1)
        have g_28 := hw.2.2.1 x 2
        exact hw
      · split
        · have g_1 := hw.2.2.1 x 1
          have r_8 := hw.len (kX1 hx)
          have g_19 := hw.2.2.1 x 1
          have r_22 := hw.ra2 (kX1 hx) (σ.2.1 x 1)
          have g_28 := hw.2.2.1 x 2
          have g_36 := hw.2.2.1 x 3
          exact hw
        · split
          · have g_1 := hw.2.2.1 x 1
            have r_8 := hw.len (kX1 hx)
            have g_19 := hw.2.2.1 x 1
            have r_22 := hw.ra2 (kX1 hx) (σ.2.1 x 1)
            have g_28 := hw.2.2.1 x 2
            have g_36 := hw.2.2.1 x 3
            have g_44 := hw.2.2.1 x 5
            exact hw
          · split
            · split
              · have g_1 := hw.2.2.1 x 1
                have r_8 := hw.len (kX1 hx)
                have g_19 := hw.2.2.1 x 1
                have r_22 := hw.ra2 (kX1 hx) (σ.2.1 x 1)
                have g_28 := hw.2.2.1 x 2
                have g_36 := hw.2.2.1 x 3
                have g_44 := hw.2.2.1 x 5
                have g_53 := hw.2.2.1 x 4
                have g_61 := hw.2.2.1 x 1
                have hw9 : wf (cI σ x 1 ((σ.2.1 x 1) + 1)) := wf_I hw (by omega)
                have r_77 := hw9.ra2 (kX1 hx) ((σ.2.1 x 1) + 1)
                exact hw9
              · have g_1 := hw.2.2.1 x 1
                have r_8 := hw.len (kX1 hx)
                have g_19 := hw.2.2.1 x 1
                have r_22 := hw.ra2 (kX1 hx) (σ.2.1 x 1)
                have g_28 := hw.2.2.1 x 2
                have g_36 := hw.2.2.1 x 3
                have g_44 := hw.2.2.1 x 5
                have g_53 := hw.2.2.1 x 4
                have g_61 := hw.2.2.1 x 1
                have hw9 : wf (cI σ x 1 ((σ.2.1 x 1) + 1)) := wf_I hw (by omega)
                have r_77 := hw9.ra2 (kX1 hx) ((σ.2.1 x 1) + 1)
                have hw11 : wf (c_addCharacter (cI σ x 1 ((σ.2.1 x 1) + 1)) p (rat ((cI σ x 1 ((σ.2.1 x 1) + 1)).1 (x + 1)) ((σ.2.1 x 1) + 1))) := w_addCharacter hw9 hp (by omega)
                have hw12 : wf (cI (c_addCharacter (cI σ x 1 ((σ.2.1 x 1) + 1)) p (rat ((cI σ x 1 ((σ.2.1 x 1) + 1)).1 (x + 1)) ((σ.2.1 x 1) + 1))) x 1 (((σ.2.1 x 1) + 1) + 1)) := wf_I hw11 (by omega)
                exact ih hw12 
            · split
              · have g_1 := hw.2.2.1 x 1
                have r_8 := hw.len (kX1 hx)
                have g_19 := hw.2.2.1 x 1
                have r_22 := hw.ra2 (kX1 hx) (σ.2.1 x 1)
                have g_28 := hw.2.2.1 x 2
                have g_36 := hw.2.2.1 x 3
                have g_44 := hw.2.2.1 x 5
                have g_53 := hw.2.2.1 x 4
                exact hw
              · have g_1 := hw.2.2.1 x 1
                have r_8 := hw.len (kX1 hx)
                have g_19 := hw.2.2.1 x 1
                have r_22 := hw.ra2 (kX1 hx) (σ.2.1 x 1)
                have g_28 := hw.2.2.1 x 2
                have g_36 := hw.2.2.1 x 3
                have g_44 := hw.2.2.1 x 5
                have g_53 := hw.2.2.1 x 4
                have hw7 : wf (c_addCharacter σ p (rat (σ.1 (x + 1)) (σ.2.1 x 1))) := w_addCharacter hw hp (by omega)
                have g_94 := hw.2.2.1 x 1
                have hw8 : wf (cI (c_addCharacter σ p (rat (σ.1 (x + 1)) (σ.2.1 x 1))) x 1 ((σ.2.1 x 1) + 1)) := wf_I hw7 (by omega)
                exact ih hw8 
theorem w_takeComponent {σ : cS} {x : Nat} {p : Nat} (hw : wf σ) (hx : kd x = 5) (hp : kd p = 2) : wf (c_takeComponent σ x p) := by
  unfold c_takeComponent
  exact w_takeComponentL hw hx hp (100003001) 
